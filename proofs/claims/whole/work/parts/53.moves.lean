-- 53.moves: pure: moves
def mayB (τ : Nat → Nat → Nat) (ρ : Nat → Nat) (s y : Nat) : Bool := ρ (12 + y) == 0 && !(endB τ (ρ y) s)
def glO (ρ : Nat → Nat) (w : Nat) : Nat := sumN (fun y => if w.testBit y then ρ (6 + y) else 0) 6
def mvB (τ : Nat → Nat → Nat) (ρ : Nat → Nat) (s w : Nat) : Bool := decide (w &&& mskN (mayB τ ρ s) (tY τ) = w) && decide (need τ ρ s ≤ glO ρ w)
def mvO (τ : Nat → Nat → Nat) (ρ : Nat → Nat) (s : Nat) : Nat → Option Nat
  | 0 => none
  | w + 1 => if mvB τ ρ s w = true ∧ (∀ b, mvO τ ρ s w = some b → popN w < popN b) then some w else mvO τ ρ s w
def oE (d : Int32) : Option Nat → Int32
  | none => d
  | some b => nI b
section MVS
variable {F : Nat → (Nat → Int32) → Int32} {τ : Nat → Nat → Nat} {ρ : Nat → Nat} {n t v s : Nat} {M : Mem}
theorem mv_s (w : Nat) : mvO τ ρ s (w + 1) = if mvB τ ρ s w = true ∧ (∀ b, mvO τ ρ s w = some b → popN w < popN b) then some w else mvO τ ρ s w := rfl
theorem mv_lt : ∀ w b, mvO τ ρ s w = some b → b < w
  | 0, b, h => by cases h
  | w + 1, b, h => by
    rw [mv_s] at h
    split at h
    · cases h
      exact Nat.lt_succ_self w
    · have := mv_lt w b h
      omega
theorem mv_no {w : Nat} (h : mvB τ ρ s w = false) : mvO τ ρ s (w + 1) = mvO τ ρ s w := by
  rw [mv_s, if_neg (fun z => by rw [h] at z; cases z.1)]
theorem mv_64 (hw : wfT τ) : ∀ k, 2 ^ tY τ + k ≤ 64 → mvO τ ρ s (2 ^ tY τ + k) = mvO τ ρ s (2 ^ tY τ)
  | 0, _ => rfl
  | k + 1, hk => by
    rw [← Nat.add_assoc, mv_no, mv_64 hw k (by omega)]
    unfold mvB
    rw [decide_eq_false, Bool.false_and]
    intro h
    have hl := mskN_lt (mayB τ ρ s) (tY τ)
    have h2 : 2 ^ tY τ + k ≤ mskN (mayB τ ρ s) (tY τ) := by
      rw [← h]
      exact Nat.and_le_right
    omega
theorem gl_le (wn : wfN τ ρ) (w : Nat) : glO ρ w ≤ 5994 := by
  have h : glO ρ w ≤ 6 * 999 := sumN_le (fun k hk => by
    have := (wn.2.1 k hk).1
    split <;> omega)
  omega
theorem c_glO {w : Nat} (hw : wfT τ) (hT : TC t τ M) (hN : NC n t τ ρ M) (wn : wfN τ ρ) (h64 : w < 64) : f_X5_glowOf n (nI w) M = some (nI (glO ρ w)) := by
  have hY : tY τ ≤ 6 := hw.2.2.1
  have e6 : glO ρ w = sumN (fun y => if w.testBit y then ρ (6 + y) else 0) (tY τ) := sumN_x hY (fun k a b => by
    rw [((wn.2.1 k b).2.2.2.2 a).1]
    exact ite_self _)
  rw [e6]
  have key : f_X5_glowOf_L4 n FU (nI w) 0 0 M = some (nI (sumN (fun y => if w.testBit y then ρ (6 + y) else 0) (tY τ))) := by
    refine loop0 (fun fu y => f_X5_glowOf_L4 n fu (nI w) (nI (sumN (fun y => if w.testBit y then ρ (6 + y) else 0) y)) (nI y) M) _ (tY τ) (by omega) (fun fu => ?_) (fun fu y hy => ?_)
    · show f_X5_glowOf_L4 n (fu + 1) _ _ _ M = _
      rw [f_X5_glowOf_L4, rT_n hN.2.1 hT.1, sb, hT.2.2.2.1, if_pos (nI_le (Nat.le_refl _) (by omega))]
    · show f_X5_glowOf_L4 n (fu + 1) _ _ _ M = f_X5_glowOf_L4 n fu _ _ _ M
      rw [f_X5_glowOf_L4, rT_n hN.2.1 hT.1, sb, hT.2.2.2.1, if_neg (nI_ge hy (by omega)), bit_n (by omega) (by omega), sumN_s]
      by_cases hb : w.testBit y = true
      · rw [if_pos hb, if_pos rfl, ag_n (by omega) (by omega), sb, (hN.2.2.2.2.2.2.2.1 y (by omega)).1, lt_def, lt_def, nI_add, nI_1, if_pos hb]
      · rw [if_neg hb, if_neg (show ¬ (0 : Int32) = 1 by decide), lt_def, nI_1, if_neg hb]
        rfl
  unfold f_X5_glowOf
  rw [key, sb]
theorem r_glO {x2 x3 x4 x5 : Int32} {w : Nat} (hN : NR 104 τ ρ M) (h64 : w < 64) : f_X12_moves_L112 FU x2 x3 x4 x5 (nI w) 0 0 M = some (nI (glO ρ w)) := by
  refine loop0 (fun fu y => f_X12_moves_L112 fu x2 x3 x4 x5 (nI w) (nI (sumN (fun y => if w.testBit y then ρ (6 + y) else 0) y)) (nI y) M) _ 6 (by omega) (fun fu => ?_) (fun fu y hy => ?_)
  · show f_X12_moves_L112 (fu + 1) _ _ _ _ _ _ _ M = _
    rw [f_X12_moves_L112, li 6, if_pos (nI_le (Nat.le_refl _) (by omega))]
    rfl
  · show f_X12_moves_L112 (fu + 1) _ _ _ _ _ _ _ M = f_X12_moves_L112 fu _ _ _ _ _ _ _ M
    rw [f_X12_moves_L112, li 6, if_neg (nI_ge hy (by omega)), bit_n (by omega) (by omega), sumN_s]
    by_cases hb : w.testBit y = true
    · rw [if_pos hb, if_pos rfl, nI_add, ag_n (by omega) (by omega), sb, hN.1 (6 + y) (by omega) (by omega), lt_def, lt_def, nI_add, nI_1, if_pos hb]
    · rw [if_neg hb, if_neg (show ¬ (0 : Int32) = 1 by decide), lt_def, nI_1, if_neg hb]
      rfl
theorem need_99 (hw : wfT τ) (hs : s < tS τ) : need τ ρ s ≤ 99 := by
  have := (hw.2.2.2.2.2.2 s hs).2.2.2.2
  unfold need
  omega
theorem near_iff {w : Nat} (hw : wfT τ) (wn : wfN τ ρ) (hwy : w < 2 ^ tY τ) : w &&& ((whoN τ ρ (τ 1 s) ||| whoN τ ρ (τ 2 s)) ||| mskN (hmB ρ) 6) = 0 ↔ w &&& mskN (mayB τ ρ s) (tY τ) = w := by
  have hY : tY τ ≤ 6 := hw.2.2.1
  rw [dis_iff, sub_iff]
  have key : ∀ j, j < tY τ → ((((whoN τ ρ (τ 1 s) ||| whoN τ ρ (τ 2 s)) ||| mskN (hmB ρ) 6).testBit j = false) ↔ (mskN (mayB τ ρ s) (tY τ)).testBit j = true) := by
    intro j hj
    have hb := (wn.2.1 j (by omega)).2.1
    rw [Nat.testBit_or, Nat.testBit_or, whoN, whoN, mskN_bit, mskN_bit, mskN_bit, mskN_bit]
    simp only [hj, show j < 6 by omega, decide_true, Bool.true_and]
    unfold mayB whoB hmB endB
    rcases (by omega : ρ (12 + j) = 0 ∨ ρ (12 + j) = 1) with e | e
    · rw [e, BEq.comm (a := τ 1 s), BEq.comm (a := τ 2 s)]
      cases (ρ j == τ 1 s) <;> cases (ρ j == τ 2 s) <;> simp
    · simp [e]
  constructor
  · intro h j hj
    exact (key j (lt_pow_bit hwy hj)).mp (h j hj)
  · intro h j hj
    exact (key j (lt_pow_bit hwy hj)).mpr (h j hj)
theorem mvB_t {w : Nat} : mvB τ ρ s w = true ↔ (w &&& mskN (mayB τ ρ s) (tY τ) = w) ∧ need τ ρ s ≤ glO ρ w := by
  unfold mvB
  simp
theorem c_moves (hw : wfT τ) (hT : TC t τ M) (hN : NC n t τ ρ M) (wn : wfN τ ρ) (hs : s < tS τ) : f_X5_fewestFor n (nI s) M = some (oE (-1) (mvO τ ρ s (2 ^ tY τ))) := by
  have hY : tY τ ≤ 6 := hw.2.2.1
  have hC : tC τ ≤ 7 := hw.1
  have hS : tS τ ≤ 10 := hw.2.1
  obtain ⟨h1, h2, -⟩ := hT.2.2.2.2.2.2.2.1 s hs
  obtain ⟨q1, q2, -⟩ := hw.2.2.2.2.2.2 s hs
  have p64 : 2 ^ tY τ ≤ 64 := show 2 ^ tY τ ≤ 2 ^ 6 from Nat.pow_le_pow_right (by decide) hY
  have n99 := need_99 (ρ := ρ) hw hs
  obtain ⟨A, hA⟩ : ∃ A, A = whoN τ ρ (τ 1 s) ||| whoN τ ρ (τ 2 s) := ⟨_, rfl⟩
  have key : f_X5_fewestFor_L41 n FU (nI A) (nI (need τ ρ s)) (-1) 0 M = some (oE (-1) (mvO τ ρ s (2 ^ tY τ))) := by
    refine loop0 (fun fu w => f_X5_fewestFor_L41 n fu (nI A) (nI (need τ ρ s)) (oE (-1) (mvO τ ρ s w)) (nI w) M) _ (2 ^ tY τ) (by omega) (fun fu => ?_) (fun fu w hwy => ?_)
    · show f_X5_fewestFor_L41 n (fu + 1) _ _ _ _ M = _
      rw [f_X5_fewestFor_L41, rT_n hN.2.1 hT.1, sb, hT.2.2.2.1, sh1 (by omega), if_pos (nI_le (Nat.le_refl _) (by omega))]
    · show f_X5_fewestFor_L41 n (fu + 1) _ _ _ _ M = f_X5_fewestFor_L41 n fu _ _ _ _ M
      have g9 := gl_le wn w
      have eq : ∀ α : Type, ∀ a b : α, (if nI w &&& (nI A ||| nI (mskN (hmB ρ) 6)) = 0 then a else b) = if w &&& mskN (mayB τ ρ s) (tY τ) = w then a else b := by
        intro α a b
        have hl : w &&& (A ||| mskN (hmB ρ) 6) < 2 ^ 31 := Nat.lt_of_le_of_lt Nat.and_le_left (by omega)
        rw [or_n, and_n]
        by_cases h : w &&& mskN (mayB τ ρ s) (tY τ) = w
        · rw [if_pos h]
          have := (near_iff (s := s) hw wn hwy).mpr h
          rw [← hA] at this
          rw [this, if_pos nI_0]
        · rw [if_neg h]
          have : ¬ w &&& (A ||| mskN (hmB ρ) 6) = 0 := fun z => h ((near_iff (s := s) hw wn hwy).mp (by rw [← hA]; exact z))
          rw [if_neg (nI_ne0 (by omega) hl)]
      rw [f_X5_fewestFor_L41, rT_n hN.2.1 hT.1, sb, hT.2.2.2.1, sh1 (by omega), if_neg (nI_ge hwy (by omega)), hN.2.2.2.2.1, eq, c_glO hw hT hN wn (by omega), sb]
      simp only [lt_def]
      rw [nI_1 w, mv_s]
      have hq := mv_lt (τ := τ) (ρ := ρ) (s := s) w
      have fin : ∀ (Q : Option Nat), (∀ b, Q = some b → b < w) → ((if oE (-1) Q = -1 then some (1 : Int32) else (f_J6_bitCount_0f7a4 (nI w)).bind fun v17 => (f_J6_bitCount_0f7a4 (oE (-1) Q)).bind fun v19 => if v19 ≤ v17 then some (0 : Int32) else some (1 : Int32)) = some (if ∀ b, Q = some b → popN w < popN b then 1 else 0)) := by
        intro Q hQ
        cases Q with
        | none => rw [if_pos (show oE (-1) none = -1 from rfl), if_pos (fun b hb => by cases hb)]
        | some b =>
          have hb := hQ b rfl
          have pw : popN w ≤ 10 := sumN_le (b := 1) (n := 10) (fun k hk => by split <;> omega)
          have pb : popN b ≤ 10 := sumN_le (b := 1) (n := 10) (fun k hk => by split <;> omega)
          rw [show oE (-1) (some b) = nI b from rfl, if_neg (show ¬ nI b = -1 from nm1 (by omega)), c_bits (by omega), sb, c_bits (by omega), sb]
          by_cases h : popN w < popN b
          · rw [if_neg (nI_ge h (by omega)), if_pos (fun c hc => by cases hc; exact h)]
          · rw [if_pos (nI_le (by omega) (by omega)), if_neg (fun z => h (z b rfl))]
      rw [fin _ hq, sb]
      by_cases hf : ∀ b, mvO τ ρ s w = some b → popN w < popN b
      · rw [if_pos hf, if_neg ne10]
        by_cases ha : w &&& mskN (mayB τ ρ s) (tY τ) = w
        · rw [if_pos ha]
          by_cases hg : need τ ρ s ≤ glO ρ w
          · rw [if_neg (nI_nlt' (nI_le hg (by omega))), if_pos ⟨mvB_t.mpr ⟨ha, hg⟩, hf⟩]
            rfl
          · rw [if_pos (nI_lt' (by omega) (by omega)), if_neg (fun z => hg (mvB_t.mp z.1).2)]
        · rw [if_neg ha, if_neg (fun z => ha (mvB_t.mp z.1).1)]
      · rw [if_neg hf, if_pos rfl, if_neg (fun z => hf z.2)]
  unfold f_X5_fewestFor
  rw [rT_n hN.2.1 hT.1, sb, ag_n (by omega) (by omega), sb, h1, c_who hw hT hN wn (by omega), sb, sb, ag_n (by omega) (by omega), sb, h2, c_who hw hT hN wn (by omega), sb, or_n, lt_def, c_need hw hT hN wn hs, sb, ← hA, key, sb]
theorem r_may {x2 x3 : Int32} (hw : wfT τ) (hV : TR v τ M) (hN : NR 104 τ ρ M) (wn : wfN τ ρ) (hs : s < tS τ) : f_X12_moves_L35 FU (nI s) x2 x3 0 0 M = some (nI (mskN (mayB τ ρ s) (tY τ))) := by
  have hY : tY τ ≤ 6 := hw.2.2.1
  have hC : tC τ ≤ 7 := hw.1
  have hv : v ≤ 1 := hV.1
  refine loop0 (fun fu y => f_X12_moves_L35 fu (nI s) x2 x3 (nI (mskN (mayB τ ρ s) y)) (nI y) M) _ (tY τ) (by omega) (fun fu => ?_) (fun fu y hy => ?_)
  · show f_X12_moves_L35 (fu + 1) _ _ _ _ _ M = _
    rw [f_X12_moves_L35, hV.2.1, ag_n (by omega) (by omega), sb, hV.2.2.2.2.1, if_pos (nI_le (Nat.le_refl _) (by omega))]
  · show f_X12_moves_L35 (fu + 1) _ _ _ _ _ M = f_X12_moves_L35 fu _ _ _ _ _ M
    have hb := (wn.2.1 y (by omega)).2.1
    have ha := wn.1 y hy
    rw [f_X12_moves_L35, hV.2.1, ag_n (by omega) (by omega), sb, hV.2.2.2.2.1, if_neg (nI_ge hy (by omega)), li 12, nI_add, ag_n (by omega) (by omega), sb, hN.1 (12 + y) (by omega) (by omega), mskN_s]
    by_cases h0 : ρ (12 + y) = 0
    · rw [h0, if_pos nI_0, ag_n (by omega) (by omega), sb, hN.1 y (by omega) (by omega), r_isEnd hw hV (by omega) hs, sb]
      cases he : endB τ (ρ y) s
      · have e : mayB τ ρ s y = true := by unfold mayB; rw [h0, he]; rfl
        rw [if_neg Bool.false_ne_true, if_pos rfl, e, lt_def, lt_def, nI_1, msk_or (by omega), if_pos rfl]
      · have e : mayB τ ρ s y = false := by unfold mayB; rw [h0, he]; rfl
        rw [if_pos rfl, if_neg ne10, e, lt_def, nI_1, if_neg Bool.false_ne_true]
        rfl
    · have e : mayB τ ρ s y = false := by
        unfold mayB
        rw [show (ρ (12 + y) == 0) = false from beq_eq_false_iff_ne.mpr h0]
        rfl
      rw [if_neg (nI_ne0 (by omega) (by omega)), e, lt_def, nI_1, if_neg Bool.false_ne_true]
      rfl
theorem r_moves {x2 : Int32} (hw : wfT τ) (hN : NR 104 τ ρ M) (wn : wfN τ ρ) (hs : s < tS τ) : f_X12_moves_L99 FU x2 (nI (need τ ρ s)) (nI (mskN (mayB τ ρ s) (tY τ))) (-2) 0 M = some (oE (-2) (mvO τ ρ s (2 ^ tY τ))) := by
  have hY : tY τ ≤ 6 := hw.2.2.1
  have p64 : 2 ^ tY τ ≤ 64 := show 2 ^ tY τ ≤ 2 ^ 6 from Nat.pow_le_pow_right (by decide) hY
  have n99 := need_99 (ρ := ρ) hw hs
  have e64 : mvO τ ρ s 64 = mvO τ ρ s (2 ^ tY τ) := by
    have := mv_64 (ρ := ρ) (s := s) hw (64 - 2 ^ tY τ) (by omega)
    rwa [show 2 ^ tY τ + (64 - 2 ^ tY τ) = 64 by omega] at this
  rw [← e64]
  refine loop0 (fun fu w => f_X12_moves_L99 fu x2 (nI (need τ ρ s)) (nI (mskN (mayB τ ρ s) (tY τ))) (oE (-2) (mvO τ ρ s w)) (nI w) M) _ 64 (by omega) (fun fu => ?_) (fun fu w hwy => ?_)
  · show f_X12_moves_L99 (fu + 1) _ _ _ _ _ M = _
    rw [f_X12_moves_L99, li 64, if_pos (nI_le (Nat.le_refl _) (by omega))]
  · show f_X12_moves_L99 (fu + 1) _ _ _ _ _ M = f_X12_moves_L99 fu _ _ _ _ _ M
    have g9 := gl_le wn w
    rw [f_X12_moves_L99, li 64, if_neg (nI_ge hwy (by omega)), r_glO hN hwy, sb, andc_n]
    simp only [lt_def]
    rw [nI_1 w, mv_s]
    have hq := mv_lt (τ := τ) (ρ := ρ) (s := s) w
    by_cases ha : w &&& mskN (mayB τ ρ s) (tY τ) = w
    · rw [if_pos (by rw [xor_z.mpr ha]; rfl)]
      by_cases hg : need τ ρ s ≤ glO ρ w
      · rw [if_neg (nI_nlt' (nI_le hg (by omega)))]
        generalize mvO τ ρ s w = Q at hq
        cases Q with
        | none =>
          rw [if_pos (show oE (-2) none < 0 by decide), if_pos ⟨mvB_t.mpr ⟨ha, hg⟩, fun b hb => by cases hb⟩]
          rfl
        | some b =>
          have hb := hq b rfl
          have pw : popN w ≤ 10 := sumN_le (b := 1) (n := 10) (fun k hk => by split <;> omega)
          have pb : popN b ≤ 10 := sumN_le (b := 1) (n := 10) (fun k hk => by split <;> omega)
          rw [show oE (-2) (some b) = nI b from rfl, if_neg (show ¬ nI b < 0 from nI_pos (by omega)), r_bits (by omega), sb, r_bits (by omega), sb]
          by_cases h : popN w < popN b
          · rw [if_neg (nI_ge h (by omega)), if_pos ⟨mvB_t.mpr ⟨ha, hg⟩, fun c hc => by cases hc; exact h⟩]
            rfl
          · rw [if_pos (nI_le (by omega) (by omega)), if_neg (fun z => h (z.2 b rfl))]
            rfl
      · rw [if_pos (nI_lt' (by omega) (by omega)), if_neg (fun z => hg (mvB_t.mp z.1).2)]
    · have hx : ¬ w ^^^ (w &&& mskN (mayB τ ρ s) (tY τ)) = 0 := fun z => ha (xor_z.mp z)
      have hl : w ^^^ (w &&& mskN (mayB τ ρ s) (tY τ)) < 2 ^ 6 := Nat.xor_lt_two_pow hwy (Nat.lt_of_le_of_lt Nat.and_le_left hwy)
      rw [if_neg (nI_ne0 (by omega) (by omega)), if_neg (fun z => ha (mvB_t.mp z.1).1)]
end MVS
theorem s_moves {M : Mem} (R : Rel M) (x1 x2 : Int32) : OkA (f_X11_moves x1 x2 M) (f_X12_moves x1 x2 M) := by
  have R0 := R
  obtain ⟨t, v, τ, ρ, F, R⟩ := R
  have hw := R.1
  have wn := R.2.1
  have hT : TC t τ M := R.2.2.1
  have hV : TR v τ M := R.2.2.2.1
  have hN : NC 60 t τ ρ M := R.2.2.2.2.1
  have h9 : M.2.2 0 9 = some t := R.2.2.2.2.2.2.1.1
  have hS : tS τ ≤ 10 := hw.2.1
  have hY : tY τ ≤ 6 := hw.2.2.1
  have p64 : 2 ^ tY τ ≤ 64 := show 2 ^ tY τ ≤ 2 ^ 6 from Nat.pow_le_pow_right (by decide) hY
  rcases ar_in x1 (n := tS τ) (by omega) with h | ⟨s, hs, rfl⟩
  · refine ⟨-1, M, ?_, ?_, R0⟩
    · unfold f_X11_moves
      rw [c_isStreet_o hT h9 h, sb, if_pos rfl]
    · unfold f_X12_moves
      rw [r_isStreet_o hw hV h, sb, if_pos rfl]
  rcases eith x2 with ⟨h01, i1, i2⟩ | ⟨n0, n1, i1, i2⟩
  case inr =>
    refine ⟨-1, M, ?_, ?_, R0⟩
    · unfold f_X11_moves
      rw [c_isStreet_i hw hT h9 hs, sb, if_neg ne10, i2, sb, if_pos rfl]
    · unfold f_X12_moves
      rw [r_isStreet_i hw hV hs, sb, if_neg ne10, i1, sb, if_pos rfl]
  obtain ⟨M5, e5, R5, X5, f5, -, -⟩ := R.rx
  have eC := c_moves hw hT hN wn hs
  have eR := r_moves (x2 := x2) hw X5.2.2.2.1 wn hs
  have eM := r_may (x2 := x2) (x3 := nI (need τ ρ s)) hw X5.2.2.1 X5.2.2.2.1 wn hs
  have eN := r_need hw X5.2.2.1 X5.2.2.2.1 wn hs
  have hq := mv_lt (τ := τ) (ρ := ρ) (s := s) (2 ^ tY τ)
  generalize mvO τ ρ s (2 ^ tY τ) = Q at hq eC eR
  cases Q with
  | none =>
    refine ⟨-2, M5, ?_, ?_, R5.rel⟩
    · unfold f_X11_moves
      rw [c_isStreet_i hw hT h9 hs, sb, if_neg ne10, i2, sb, if_neg ne10, eC, sb, if_pos (show oE (-1) none = -1 from rfl)]
    · unfold f_X12_moves
      rw [r_isStreet_i hw hV hs, sb, if_neg ne10, i1, sb, if_neg ne10, e5, sb, eN, sb, eM, sb, eR, sb, if_pos (show oE (-2) none < 0 by decide)]
      rfl
  | some b =>
    have hb := hq b rfl
    have eC : f_X5_fewestFor 60 (nI s) M = some (nI b) := eC
    have eR : f_X12_moves_L99 FU x2 (nI (need τ ρ s)) (nI (mskN (mayB τ ρ s) (tY τ))) (-2) 0 M5 = some (nI b) := eR
    rcases h01 with rfl | rfl
    · refine ⟨nI (popN b), M5, ?_, ?_, R5.rel⟩
      · unfold f_X11_moves
        rw [c_isStreet_i hw hT h9 hs, sb, if_neg ne10, i2, sb, if_neg ne10, eC, sb, if_neg (nm1 (by omega)), if_pos rfl, c_bits (by omega), sb]
      · unfold f_X12_moves
        rw [r_isStreet_i hw hV hs, sb, if_neg ne10, i1, sb, if_neg ne10, e5, sb, eN, sb, eM, sb, eR, sb, if_neg (nI_pos (by omega)), if_neg (show ¬ (0 : Int32) = 1 by decide), r_bits (by omega), sb]
    · refine ⟨nI b, M5, ?_, ?_, R5.rel⟩
      · unfold f_X11_moves
        rw [c_isStreet_i hw hT h9 hs, sb, if_neg ne10, i2, sb, if_neg ne10, eC, sb, if_neg (nm1 (by omega)), if_neg ne10]
      · unfold f_X12_moves
        rw [r_isStreet_i hw hV hs, sb, if_neg ne10, i1, sb, if_neg ne10, e5, sb, eN, sb, eM, sb, eR, sb, if_neg (nI_pos (by omega)), if_pos rfl]

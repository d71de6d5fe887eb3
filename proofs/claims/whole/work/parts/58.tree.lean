-- 58.tree: pure: tree
def crB (τ : Nat → Nat → Nat) (J s : Nat) : Bool := J.testBit (τ 1 s) != J.testBit (τ 2 s)
/-- the shortest street out of J, the first of alike ones -/
def bsO (τ : Nat → Nat → Nat) (J : Nat) : Nat → Option Nat
  | 0 => none
  | s + 1 => if crB τ J s = true ∧ (∀ b, bsO τ J s = some b → τ 3 s < τ 3 b) then some s else bsO τ J s
def jnN (τ : Nat → Nat → Nat) (J b : Nat) : Nat := J ||| (2 ^ τ 1 b ||| 2 ^ τ 2 b)
def trV (τ : Nat → Nat → Nat) : Nat → Nat → Nat → Int32
  | 0, _, S => nI S
  | k + 1, J, S => match bsO τ J (tS τ) with
    | none => -2
    | some b => trV τ k (jnN τ J b) (S + τ 3 b)
def cnN (n J : Nat) : Nat := sumN (fun c => if J.testBit c then 1 else 0) n
theorem cn_le (n J : Nat) : cnN n J ≤ n := by
  have h : cnN n J ≤ n * 1 := sumN_le (fun k hk => by split <;> omega)
  omega
theorem cn_all {J : Nat} : ∀ n, cnN n J = n → ∀ c, c < n → J.testBit c = true
  | 0, _, c, hc => absurd hc (by omega)
  | n + 1, h, c, hc => by
    have h1 := cn_le n J
    have h2 : cnN n J + (if J.testBit n then 1 else 0) = n + 1 := h
    by_cases hb : J.testBit n = true
    · rw [if_pos hb] at h2
      by_cases e : c = n
      · rw [e]; exact hb
      · exact cn_all n (by omega) c (by omega)
    · rw [if_neg hb] at h2
      omega
theorem cn_add {J x : Nat} (hx : J.testBit x = false) : ∀ n, cnN n (J ||| 2 ^ x) = cnN n J + if x < n then 1 else 0
  | 0 => rfl
  | n + 1 => by
    have ih := cn_add hx n
    have e1 : cnN (n + 1) (J ||| 2 ^ x) = cnN n (J ||| 2 ^ x) + if (J ||| 2 ^ x).testBit n then 1 else 0 := rfl
    have e2 : cnN (n + 1) J = cnN n J + if J.testBit n then 1 else 0 := rfl
    rw [e1, e2, ih, Nat.testBit_or, Nat.testBit_two_pow]
    by_cases e : x = n
    · subst e
      rw [hx]
      simp
    · have : decide (x = n) = false := decide_eq_false e
      rw [this, Bool.or_false]
      by_cases h : x < n
      · rw [if_pos h, if_pos (show x < n + 1 by omega)]; omega
      · rw [if_neg h, if_neg (show ¬ x < n + 1 by omega)]; omega
section TRE
variable {F : Nat → (Nat → Int32) → Int32} {τ : Nat → Nat → Nat} {ρ : Nat → Nat} {t v : Nat} {M : Mem}
theorem bs_s (J s : Nat) : bsO τ J (s + 1) = if crB τ J s = true ∧ (∀ b, bsO τ J s = some b → τ 3 s < τ 3 b) then some s else bsO τ J s := rfl
theorem bs_lt {J : Nat} : ∀ s b, bsO τ J s = some b → b < s ∧ crB τ J b = true
  | 0, b, h => by cases h
  | s + 1, b, h => by
    rw [bs_s] at h
    split at h
    · next hc =>
      cases h
      exact ⟨Nat.lt_succ_self s, hc.1⟩
    · have := bs_lt s b h
      exact ⟨by omega, this.2⟩
theorem or_set {J a : Nat} (h : J.testBit a = true) : J ||| 2 ^ a = J := by
  apply Nat.eq_of_testBit_eq
  intro j
  rw [Nat.testBit_or, Nat.testBit_two_pow]
  by_cases e : a = j
  · subst e; rw [h]; rfl
  · simp [e]
/-- one more corner is joined -/
theorem jn_ok {J b : Nat} (hw : wfT τ) (hb : b < tS τ) (hc : crB τ J b = true) (hJ : J < 2 ^ tC τ) : jnN τ J b < 2 ^ tC τ ∧ cnN (tC τ) (jnN τ J b) = cnN (tC τ) J + 1 := by
  obtain ⟨q1, q2, q3, -, -⟩ := hw.2.2.2.2.2.2 b hb
  have p1 : 2 ^ τ 1 b < 2 ^ tC τ := Nat.pow_lt_pow_right (by decide) q1
  have p2 : 2 ^ τ 2 b < 2 ^ tC τ := Nat.pow_lt_pow_right (by decide) q2
  refine ⟨Nat.or_lt_two_pow hJ (Nat.or_lt_two_pow p1 p2), ?_⟩
  unfold crB at hc
  unfold jnN
  rw [← Nat.or_assoc]
  cases h1 : J.testBit (τ 1 b)
  · cases h2 : J.testBit (τ 2 b)
    · rw [h1, h2] at hc; cases hc
    · have h2' : (J ||| 2 ^ τ 1 b).testBit (τ 2 b) = true := by rw [Nat.testBit_or, h2]; rfl
      rw [or_set h2', cn_add h1, if_pos q1]
  · cases h2 : J.testBit (τ 2 b)
    · rw [or_set h1, cn_add h2, if_pos q2]
    · rw [h1, h2] at hc; cases hc
theorem c_cross {J s : Nat} (hw : wfT τ) (hT : TC t τ M) (hs : s < tS τ) (hJ : J < 2 ^ 31) : f_X10_isCrossing t (nI J) (nI s) M = some (if crB τ J s then 1 else 0) := by
  have hS : tS τ ≤ 10 := hw.2.1
  have hC : tC τ ≤ 7 := hw.1
  obtain ⟨h1, h2, -⟩ := hT.2.2.2.2.2.2.2.1 s hs
  obtain ⟨q1, q2, -⟩ := hw.2.2.2.2.2.2 s hs
  unfold f_X10_isCrossing crB
  rw [ag_n (by omega) (by omega), sb, h1, ag_n (by omega) (by omega), sb, h2, bit_n hJ (by omega), bit_n hJ (by omega)]
  cases J.testBit (τ 1 s) <;> cases J.testBit (τ 2 s) <;> rfl
theorem c_out {J : Nat} (hw : wfT τ) (hT : TC t τ M) (hJ : J < 2 ^ 31) : f_X10_shortestOutOf t (nI J) M = some (oE (-1) (bsO τ J (tS τ))) := by
  have hS : tS τ ≤ 10 := hw.2.1
  have key : f_X10_shortestOutOf_L4 t FU (nI J) (-1) 0 M = some (oE (-1) (bsO τ J (tS τ))) := by
    refine loop0 (fun fu s => f_X10_shortestOutOf_L4 t fu (nI J) (oE (-1) (bsO τ J s)) (nI s) M) _ (tS τ) (by omega) (fun fu => ?_) (fun fu s hs => ?_)
    · show f_X10_shortestOutOf_L4 t (fu + 1) _ _ _ M = _
      rw [f_X10_shortestOutOf_L4, hT.2.2.1, if_pos (nI_le (Nat.le_refl _) (by omega))]
    · show f_X10_shortestOutOf_L4 t (fu + 1) _ _ _ M = f_X10_shortestOutOf_L4 t fu _ _ _ M
      have hq := bs_lt (τ := τ) (J := J) s
      have h3 := (hT.2.2.2.2.2.2.2.1 s hs).2.2
      have l3 := (hw.2.2.2.2.2.2 s hs).2.2.2.2
      rw [f_X10_shortestOutOf_L4, hT.2.2.1, if_neg (nI_ge hs (by omega)), c_cross hw hT hs hJ, sb, bs_s]
      simp only [lt_def]
      rw [nI_1 s]
      cases hc : crB τ J s
      · rw [if_neg Bool.false_ne_true, if_pos rfl, if_neg (fun z => Bool.false_ne_true z.1)]
      · rw [if_pos rfl, if_neg ne10]
        generalize bsO τ J s = Q at hq
        cases Q with
        | none =>
          rw [if_pos (show oE (-1) none = -1 from rfl), if_pos ⟨rfl, fun b hb => by cases hb⟩]
          rfl
        | some b =>
          have hb := (hq b rfl).1
          have h3b := (hT.2.2.2.2.2.2.2.1 b (by omega)).2.2
          have l3b := (hw.2.2.2.2.2.2 b (by omega)).2.2.2.2
          rw [show oE (-1) (some b) = nI b from rfl, if_neg (nm1 (by omega)), ag_n (by omega) (by omega), sb, h3, ag_n (by omega) (by omega), sb, h3b]
          by_cases h : τ 3 s < τ 3 b
          · rw [if_neg (nI_ge h (by omega)), if_pos ⟨rfl, fun c hc => by cases hc; exact h⟩]
            rfl
          · rw [if_pos (nI_le (by omega) (by omega)), if_neg (fun z => h (z.2 b rfl))]
            rfl
  unfold f_X10_shortestOutOf
  rw [key, sb]
theorem c_tr (hw : wfT τ) (hT : TC t τ M) : ∀ k J S fu, k < tC τ → J < 2 ^ tC τ → k < fu → f_X10_shortestJoin_L17 t (fun t12 => some t12) fu (nI J) (nI S) (nI (tC τ - k)) M = some (trV τ k J S)
  | 0, J, S, fu, hk, hJ, hf => by
    have hC : tC τ ≤ 7 := hw.1
    obtain ⟨q, rfl⟩ : ∃ q, fu = q + 1 := ⟨fu - 1, by omega⟩
    rw [f_X10_shortestJoin_L17, hT.2.1, if_pos (nI_le (by omega) (by omega))]
    rfl
  | k + 1, J, S, fu, hk, hJ, hf => by
    have hC : tC τ ≤ 7 := hw.1
    have hS : tS τ ≤ 10 := hw.2.1
    obtain ⟨q, rfl⟩ : ∃ q, fu = q + 1 := ⟨fu - 1, by omega⟩
    have p7 : 2 ^ tC τ ≤ 2 ^ 7 := Nat.pow_le_pow_right (by decide) hC
    have hq := bs_lt (τ := τ) (J := J) (tS τ)
    rw [f_X10_shortestJoin_L17, hT.2.1, if_neg (nI_ge (by omega) (by omega)), c_out hw hT (by omega), sb, trV]
    cases hb : bsO τ J (tS τ) with
    | none =>
      rw [if_pos (show oE (-1) none = -1 from rfl)]
    | some b =>
      obtain ⟨hb1, hb2⟩ := hq b hb
      obtain ⟨h1, h2, h3⟩ := hT.2.2.2.2.2.2.2.1 b hb1
      obtain ⟨q1, q2, -⟩ := hw.2.2.2.2.2.2 b hb1
      rw [show oE (-1) (some b) = nI b from rfl, if_neg (nm1 (by omega)), ag_n (by omega) (by omega), sb, h1, ag_n (by omega) (by omega), sb, h2, sh1 (by omega), sh1 (by omega), or_n, or_n, lt_def, ag_n (by omega) (by omega), sb, h3, nI_add, lt_def, nI_1, lt_def, show tC τ - (k + 1) + 1 = tC τ - k by omega]
      exact c_tr hw hT k (jnN τ J b) (S + τ 3 b) q (by omega) (jn_ok hw hb1 hb2 hJ).1 (by omega)
theorem r_out {x1 x3 : Int32} {J : Nat} (hw : wfT τ) (hV : TR v τ M) (hJ : J < 2 ^ 31) : f_X12_tree_L36 FU x1 (nI J) x3 (-1) 0 M = some (oE (-1) ((bsO τ J (tS τ)).map (fun b => 10 * v + b))) := by
  have hS : tS τ ≤ 10 := hw.2.1
  have hC : tC τ ≤ 7 := hw.1
  have hv : v ≤ 1 := hV.1
  refine loop0 (fun fu s => f_X12_tree_L36 fu x1 (nI J) x3 (oE (-1) ((bsO τ J s).map (fun b => 10 * v + b))) (nI s) M) _ (tS τ) (by omega) (fun fu => ?_) (fun fu s hs => ?_)
  · show f_X12_tree_L36 (fu + 1) _ _ _ _ _ M = _
    rw [f_X12_tree_L36, hV.2.1, ag_n (by omega) (by omega), sb, hV.2.2.2.1, if_pos (nI_le (Nat.le_refl _) (by omega))]
  · show f_X12_tree_L36 (fu + 1) _ _ _ _ _ M = f_X12_tree_L36 fu _ _ _ _ _ M
    have hq := bs_lt (τ := τ) (J := J) s
    obtain ⟨h1, h2, h3⟩ := hV.2.2.2.2.2.2.2.2.1 s hs
    obtain ⟨q1, q2, -, -, l3⟩ := hw.2.2.2.2.2.2 s hs
    rw [f_X12_tree_L36, hV.2.1, ag_n (by omega) (by omega), sb, hV.2.2.2.1, if_neg (nI_ge hs (by omega)), li 10, pk_mul, nI_add, lt_def, ag_n (by omega) (by omega), sb, h1, ag_n (by omega) (by omega), sb, h2, bit_n hJ (by omega), bit_n hJ (by omega), bs_s]
    simp only [lt_def]
    rw [nI_1 s]
    have hcr : ((if J.testBit (τ 1 s) = true then (1 : Int32) else 0) = if J.testBit (τ 2 s) = true then 1 else 0) ↔ crB τ J s = false := by
      unfold crB
      cases J.testBit (τ 1 s) <;> cases J.testBit (τ 2 s) <;> simp
    cases hc : crB τ J s
    · rw [if_pos (hcr.mpr hc), if_neg (fun z => Bool.false_ne_true z.1)]
    · rw [if_neg (fun z => by rw [hcr.mp z] at hc; cases hc)]
      generalize bsO τ J s = Q at hq
      cases Q with
      | none =>
        rw [if_pos (show oE (-1) (Option.map (fun b => 10 * v + b) none) < 0 from (by decide : (-1 : Int32) < 0)), if_pos ⟨rfl, fun b hb => by cases hb⟩]
        rfl
      | some b =>
        have hb := (hq b rfl).1
        have h3b := (hV.2.2.2.2.2.2.2.2.1 b (by omega)).2.2
        have l3b := (hw.2.2.2.2.2.2 b (by omega)).2.2.2.2
        rw [show oE (-1) (Option.map (fun b => 10 * v + b) (some b)) = nI (10 * v + b) from rfl, if_neg (nI_pos (by omega)), ag_n (by omega) (by omega), sb, h3, ag_n (by omega) (by omega), sb, h3b]
        by_cases h : τ 3 s < τ 3 b
        · rw [if_neg (nI_ge h (by omega)), if_pos ⟨rfl, fun c hc => by cases hc; exact h⟩]
          rfl
        · rw [if_pos (nI_le (by omega) (by omega)), if_neg (fun z => h (z.2 b rfl))]
          rfl
theorem r_tr (hw : wfT τ) (hV : TR v τ M) : ∀ k J S fu, k + cnN (tC τ) J = tC τ → J < 2 ^ tC τ → k < fu → f_X12_tree_L25 (fun t27 => some t27) fu (nI (2 ^ tC τ - 1)) (nI J) (nI S) M = some (trV τ k J S)
  | 0, J, S, fu, hk, hJ, hf => by
    obtain ⟨q, rfl⟩ : ∃ q, fu = q + 1 := ⟨fu - 1, by omega⟩
    have e : J = 2 ^ tC τ - 1 := by
      apply Nat.eq_of_testBit_eq
      intro j
      rw [Nat.testBit_two_pow_sub_one]
      by_cases hj : j < tC τ
      · rw [cn_all (tC τ) (by omega) j hj, decide_eq_true hj]
      · rw [decide_eq_false hj, Nat.testBit_lt_two_pow (Nat.lt_of_lt_of_le hJ (Nat.pow_le_pow_right (by decide) (by omega)))]
    rw [f_X12_tree_L25, e, if_pos rfl]
    rfl
  | k + 1, J, S, fu, hk, hJ, hf => by
    have hC : tC τ ≤ 7 := hw.1
    have hS : tS τ ≤ 10 := hw.2.1
    have hv : v ≤ 1 := hV.1
    obtain ⟨q, rfl⟩ : ∃ q, fu = q + 1 := ⟨fu - 1, by omega⟩
    have p7 : 2 ^ tC τ ≤ 2 ^ 7 := Nat.pow_le_pow_right (by decide) hC
    have hq := bs_lt (τ := τ) (J := J) (tS τ)
    have ne : J ≠ 2 ^ tC τ - 1 := by
      intro e
      have : cnN (tC τ) J = tC τ := by
        rw [e]
        have : ∀ n, n ≤ 7 → cnN n (2 ^ n - 1) = n := by decide +kernel
        exact this _ hC
      omega
    rw [f_X12_tree_L25, if_neg (fun z => ne (nI_inj (by omega) (by omega) z)), r_out hw hV (by omega), sb, trV]
    cases hb : bsO τ J (tS τ) with
    | none =>
      rw [if_neg (show ¬ (0 : Int32) ≤ oE (-1) (Option.map (fun b => 10 * v + b) none) from (by decide : ¬ (0 : Int32) ≤ -1))]
    | some b =>
      obtain ⟨hb1, hb2⟩ := hq b hb
      obtain ⟨h1, h2, h3⟩ := hV.2.2.2.2.2.2.2.2.1 b hb1
      obtain ⟨q1, q2, -⟩ := hw.2.2.2.2.2.2 b hb1
      obtain ⟨j1, j2⟩ := jn_ok hw hb1 hb2 hJ
      rw [show oE (-1) (Option.map (fun b => 10 * v + b) (some b)) = nI (10 * v + b) from rfl, if_pos (nI_pos' (by omega)), ag_n (by omega) (by omega), sb, h1, ag_n (by omega) (by omega), sb, h2, sh1 (by omega), sh1 (by omega), or_n, or_n, lt_def, ag_n (by omega) (by omega), sb, h3, nI_add, lt_def]
      exact r_tr hw hV k (jnN τ J b) (S + τ 3 b) q (by omega) j1 (by omega)
end TRE
theorem s_tree {M : Mem} (R : Rel M) : OkC (f_X11_tree M) (f_X12_tree M) := by
  obtain ⟨t, v, τ, ρ, F, R⟩ := R
  have hw := R.1
  have hT : TC t τ M := R.2.2.1
  have hV : TR v τ M := R.2.2.2.1
  have h9 : M.2.2 0 9 = some t := R.2.2.2.2.2.2.1.1
  have hC : tC τ ≤ 7 := hw.1
  have hv : v ≤ 1 := hV.1
  have p7 : 2 ^ tC τ ≤ 2 ^ 7 := Nat.pow_le_pow_right (by decide) hC
  have p0 : 0 < 2 ^ tC τ := Nat.two_pow_pos _
  by_cases hz : tC τ = 0
  · refine ⟨-2, ?_, ?_⟩
    · unfold f_X11_tree f_X10_shortestJoin
      rw [rT_n h9 hT.1, sb, hT.2.1, hz, if_pos nI_0, sb]
    · unfold f_X12_tree
      rw [hV.2.1, ag_n (by omega) (by omega), sb, hV.2.2.1, hz, lt_def, if_pos (by decide)]
  · have h1 : 1 < 2 ^ tC τ := Nat.one_lt_two_pow hz
    have c1 : cnN (tC τ) 1 = 1 := by
      have : ∀ n, n ≤ 7 → n ≠ 0 → cnN n 1 = 1 := by decide +kernel
      exact this _ hC hz
    refine ⟨trV τ (tC τ - 1) 1 0, ?_, ?_⟩
    · unfold f_X11_tree f_X10_shortestJoin
      have := c_tr (M := M) hw hT (tC τ - 1) 1 0 FU (by omega) h1 (by show tC τ - 1 < 1000000; omega)
      rw [show tC τ - (tC τ - 1) = 1 by omega] at this
      rw [rT_n h9 hT.1, sb, hT.2.1, if_neg (nI_ne0 (by omega) (by omega)), show f_X10_shortestJoin_L17 t (fun t12 => some t12) FU 1 0 1 M = _ from this, sb]
    · unfold f_X12_tree
      have := r_tr (M := M) hw hV (tC τ - 1) 1 0 FU (by omega) h1 (by show tC τ - 1 < 1000000; omega)
      rw [hV.2.1, ag_n (by omega) (by omega), sb, hV.2.2.1, sh1 (by omega), li 1, pk_sub (by omega), lt_def, if_neg (nI_ne0 (by omega) (by omega))]
      exact this

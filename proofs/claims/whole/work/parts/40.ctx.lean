-- 40.ctx: pure: what a law tells, held to 0 .. 99, both sides
theorem loopX {σ α : Type} (f : Nat → Nat → σ → Option α) (P : Nat → σ → Prop) (Q : α → Prop) (N : Nat) (hend : ∀ fu s, P N s → ∃ a, f (fu + 1) N s = some a ∧ Q a) (hstep : ∀ fu y s, y < N → P y s → (∃ a, f (fu + 1) y s = some a ∧ Q a) ∨ ∃ s', f (fu + 1) y s = f fu (y + 1) s' ∧ P (y + 1) s') : ∀ k y fu s, y + k = N → k < fu → P y s → ∃ a, f fu y s = some a ∧ Q a
  | 0, y, fu, s, hy, hf, hP => by
    obtain ⟨q, rfl⟩ : ∃ q, fu = q + 1 := ⟨fu - 1, by omega⟩
    have : y = N := by omega
    subst this
    exact hend q s hP
  | k + 1, y, fu, s, hy, hf, hP => by
    obtain ⟨q, rfl⟩ : ∃ q, fu = q + 1 := ⟨fu - 1, by omega⟩
    rcases hstep q y s (by omega) hP with h | ⟨s', e, hP'⟩
    · exact h
    · rw [e]
      exact loopX f P Q N hend hstep k (y + 1) q s' (by omega) (by omega) hP'
theorem loopQ {σ α : Type} (f : Nat → Nat → σ → Option α) (P : Nat → σ → Prop) (Q : α → Prop) (N : Nat) (hN : N < 1000000) (hend : ∀ fu s, P N s → ∃ a, f (fu + 1) N s = some a ∧ Q a) (hstep : ∀ fu y s, y < N → P y s → (∃ a, f (fu + 1) y s = some a ∧ Q a) ∨ ∃ s', f (fu + 1) y s = f fu (y + 1) s' ∧ P (y + 1) s') (s : σ) (h0 : P 0 s) : ∃ a, f FU 0 s = some a ∧ Q a := loopX f P Q N hend hstep N 0 FU s (by omega) hN h0
def hlN (x : Int32) : Nat := if x < 0 then 0 else if x < 99 then x.toNatClampNeg else 99
theorem hlN_le (x : Int32) : hlN x ≤ 99 := by
  unfold hlN
  by_cases h : x < 0
  · rw [if_pos h]; omega
  · rw [if_neg h]
    obtain ⟨j, hj, rfl⟩ := nI_of h
    by_cases h2 : nI j < 99
    · rw [if_pos h2, nI_clamp hj]
      have := (nI_ltI hj (by omega : 99 < 2 ^ 31)).mp h2
      omega
    · rw [if_neg h2]; omega
theorem c_held (x : Int32) : f_X2_held x = some (nI (hlN x)) := by
  unfold f_X2_held hlN
  rw [lt_def, lt_def]
  by_cases h : x < 0
  · have h9 : x < 99 := Int32.lt_of_lt_of_le h (by decide)
    rw [if_pos h9, if_pos h, if_neg (fun z => Int32.lt_irrefl (Int32.lt_trans z h))]
    rfl
  · rw [if_neg h]
    obtain ⟨j, hj, rfl⟩ := nI_of h
    by_cases h2 : nI j < 99
    · rw [if_pos h2, if_pos h2, nI_clamp hj]
      by_cases h0 : (0 : Int32) < nI j
      · rw [if_pos h0]
      · have : j = 0 := by
          by_cases hz : j = 0
          · exact hz
          · exact absurd (nI_lt' (a := 0) (b := j) (by omega) hj) h0
        rw [if_neg h0, this]
        rfl
    · rw [if_neg h2, if_neg h2, if_pos (by decide)]
      rfl
theorem r_held (x : Int32) : f_X12_within x 0 99 = some (nI (hlN x)) := by
  unfold f_X12_within hlN
  by_cases h : x < 0
  · rw [if_neg (fun z => Int32.lt_irrefl (Int32.lt_of_lt_of_le h z)), if_pos h]
    rfl
  · rw [if_neg h, if_pos (Int32.not_lt.mp h)]
    obtain ⟨j, hj, rfl⟩ := nI_of h
    by_cases h2 : nI j < 99
    · rw [if_pos h2, if_pos (Int32.le_of_lt h2), nI_clamp hj]
    · rw [if_neg h2]
      by_cases h3 : nI j ≤ 99
      · rw [if_pos h3, Int32.le_antisymm h3 (Int32.not_lt.mp h2)]
        rfl
      · rw [if_neg h3]
        rfl
theorem r_within {a b : Nat} (ha : a < 2 ^ 31) (hb : b < 2 ^ 31) : f_X12_within (nI a) 0 (nI b) = some (nI (if a < b then a else b)) := by
  unfold f_X12_within
  rw [if_pos (nI_pos' ha)]
  by_cases h : a < b
  · rw [if_pos h, if_pos (nI_le (by omega) hb)]
  · rw [if_neg h]
    by_cases h2 : a = b
    · rw [h2, if_pos (nI_le (by omega) hb)]
    · rw [if_neg (nI_ge (by omega) ha)]
theorem c_min {a b : Nat} (ha : a < 2 ^ 31) (hb : b < 2 ^ 31) : (if nI a < nI b then nI a else nI b) = nI (if a < b then a else b) := by
  by_cases h : a < b
  · rw [if_pos h, if_pos (nI_lt' h hb)]
  · rw [if_neg h, if_neg (nI_nlt' (nI_le (by omega) ha))]
-- what a law tells
section LWN
variable (F : Nat → (Nat → Int32) → Int32) (τ : Nat → Nat → Nat) (ρ : Nat → Nat)
def gwN (y w : Nat) : Nat := hlN (F 0 (uV τ ρ y (nI (ρ (36 + w))) (nI (ρ (41 + w)))))
def waN (y w : Nat) : Nat := hlN (F 1 (uV τ ρ y (nI (ρ (36 + w))) (nI (ρ (41 + w)))))
def cwN (y : Nat) : Nat := hlN (F 2 (uV τ ρ y 0 0))
def lvB (y : Nat) : Bool := decide (0 < F 3 (uV τ ρ y 0 0))
/-- how y would glow, told w -/
def wgN (y w : Nat) : Nat := if ρ (12 + y) = 1 then 0 else if ρ (6 + y) + gwN F τ ρ y w < 999 then ρ (6 + y) + gwN F τ ρ y w else 999
end LWN
abbrev lwS : List Nat := [32, 33, 36, 37]
def CX (n t : Nat) (τ : Nat → Nat → Nat) (ρ : Nat → Nat) (F : Nat → (Nat → Int32) → Int32) (M : Mem) : Prop := wfT τ ∧ wfN τ ρ ∧ TC t τ M ∧ NC n t τ ρ M ∧ LawF F ∧ LawC t F M
def RX (v : Nat) (τ : Nat → Nat → Nat) (ρ : Nat → Nat) (F : Nat → (Nat → Int32) → Int32) (M : Mem) : Prop := wfT τ ∧ wfN τ ρ ∧ TR v τ M ∧ NR 104 τ ρ M ∧ LawF F ∧ LawM F M
section CXS
variable {n t v : Nat} {τ : Nat → Nat → Nat} {ρ : Nat → Nat} {F : Nat → (Nat → Int32) → Int32} {M M' : Mem}
theorem isT_le (h : isT t) : 1 ≤ t ∧ t + 9 ≤ 20 := by
  rcases h with e | e <;> omega
theorem isN_le (h : isN n) : 38 ≤ n ∧ n + 6 ≤ 66 ∧ (n = 38 ∨ n = 60) := by
  rcases h with e | e <;> omega
theorem TC.of (h : TC t τ M) (e : ∀ a, a ≤ 20 → M'.1 a = M.1 a) : TC t τ M' := by
  have ht := isT_le h.1
  unfold TC at h ⊢
  rw [e t (by omega), e (t + 1) (by omega), e (t + 2) (by omega), e (t + 3) (by omega), e (t + 4) (by omega), e (t + 5) (by omega)]
  exact h
theorem NC.of (h : NC n t τ ρ M) (e : ∀ a, n ≤ a → a ≤ n + 6 → M'.1 a = M.1 a) (e2 : M'.2.2 n = M.2.2 n) : NC n t τ ρ M' := by
  unfold NC at h ⊢
  rw [e n (by omega) (by omega), e (n + 1) (by omega) (by omega), e (n + 2) (by omega) (by omega), e (n + 3) (by omega) (by omega), e (n + 4) (by omega) (by omega), e (n + 5) (by omega) (by omega), e (n + 6) (by omega) (by omega), e2]
  exact h
theorem LawC.of (h : LawC t F M) (ht : isT t) (e : ∀ a, a ≤ 20 → M'.1 a = M.1 a) : LawC t F M' := by
  have h2 := isT_le ht
  intro M2 a1 a2 a3
  exact h M2 (a1.trans (e t (by omega))) (a2.trans (e (t + 8) (by omega))) (a3.trans (e (t + 9) (by omega)))
theorem CX.fl (h : CX n t τ ρ F M) (f : FrD lwS M M') : CX n t τ ρ F M' := by
  obtain ⟨h1, h2, h3, h4, h5, h6⟩ := h
  have e : ∀ a, a ≤ 20 → M'.1 a = M.1 a := fun a ha => f.1 a (by simp; omega)
  have hn := isN_le h4.1
  exact ⟨h1, h2, h3.of e, h4.of (fun a ha hb => f.1 a (by simp; omega)) (by rw [f.2]), h5, h6.of h3.1 e⟩
theorem LawM.of (h : LawM F M) (e : ∀ a, 91 ≤ a → a ≤ 99 → M'.1 a = M.1 a) (e18 : M'.1 67 18 = M.1 67 18) : LawM F M' := h.mv e18 e
theorem RX.fr {S : List Nat} (h : RX v τ ρ F M) (f : FrM S M M') (hS : ∀ a ∈ 104 :: townA, a ∉ S) : RX v τ ρ F M' := by
  obtain ⟨h1, h2, h3, h4, h5, h6⟩ := h
  refine ⟨h1, h2, h3.fr f (fun a ha => hS a ?_), h4.fr f (hS 104 (by decide)) (by decide), h5, h6.of (fun a b c => f.1 a (hS a (List.mem_cons_of_mem _ (law_town a b c))) (by omega)) (f.2.1 18 (by decide) (by decide) (by decide))⟩
  revert a
  decide
theorem lw_in {lw : Nat} (hL : isL lw) : ∀ a ∈ [lw + 1, lw + 2], a ∈ lwS := by
  rcases hL with e | e <;> subst e <;> decide
theorem cw_ix {w : Nat} (hw : w < 5) : ¬ nI w = -1 := fun z => nI_pos (n := w) (by omega) (by rw [z]; decide)
theorem c_lawW {lw y w k : Nat} (C : CX n t τ ρ F M) (hL : isL lw) (hy : y < tY τ) (hw : w < tW τ) (hk : k < 4) : ∃ M', f_X2_lawOf lw (nI k) n (nI y) (nI w) M = some (F k (uV τ ρ y (nI (ρ (36 + w))) (nI (ρ (41 + w)))), M') ∧ FrD lwS M M' := by
  obtain ⟨h1, h2, h3, h4, h5, h6⟩ := C
  have hW : tW τ ≤ 5 := h1.2.2.2.1
  have q := h4.2.2.2.2.2.2.2.2 w (by omega)
  obtain ⟨M', e, f⟩ := c_law (x4 := nI w) (h := nI (ρ (36 + w))) (w := nI (ρ (41 + w))) h1 hL h3 h4 h5 h6 hy hk (by rw [if_neg (cw_ix (by omega)), ag_n (by omega) (by omega), sb, q.1]) (by rw [if_neg (cw_ix (by omega)), ag_n (by omega) (by omega), sb, q.2])
  exact ⟨M', e, f.sub (lw_in hL)⟩
theorem c_law0 {lw y k : Nat} (C : CX n t τ ρ F M) (hL : isL lw) (hy : y < tY τ) (hk : k < 4) : ∃ M', f_X2_lawOf lw (nI k) n (nI y) (-1) M = some (F k (uV τ ρ y 0 0), M') ∧ FrD lwS M M' := by
  obtain ⟨h1, h2, h3, h4, h5, h6⟩ := C
  obtain ⟨M', e, f⟩ := c_law (x4 := -1) (h := 0) (w := 0) h1 hL h3 h4 h5 h6 hy hk (if_pos rfl) (if_pos rfl)
  exact ⟨M', e, f.sub (lw_in hL)⟩
theorem c_glows {lw y w : Nat} (C : CX n t τ ρ F M) (hL : isL lw) (hy : y < tY τ) (hw : w < tW τ) : ∃ M', f_X2_glows lw n (nI y) (nI w) M = some (nI (gwN F τ ρ y w), M') ∧ FrD lwS M M' := by
  obtain ⟨M', e, f⟩ := c_lawW C hL hy hw (k := 0) (by omega)
  refine ⟨M', ?_, f⟩
  unfold f_X2_glows
  rw [show f_X2_lawOf lw 0 = f_X2_lawOf lw (nI 0) from rfl, e, sb, c_held, sb]
  rfl
theorem c_wears {lw y w : Nat} (C : CX n t τ ρ F M) (hL : isL lw) (hy : y < tY τ) (hw : w < tW τ) : ∃ M', f_X2_wears lw n (nI y) (nI w) M = some (nI (waN F τ ρ y w), M') ∧ FrD lwS M M' := by
  obtain ⟨M', e, f⟩ := c_lawW C hL hy hw (k := 1) (by omega)
  refine ⟨M', ?_, f⟩
  unfold f_X2_wears
  rw [show f_X2_lawOf lw 1 = f_X2_lawOf lw (nI 1) from rfl, e, sb, c_held, sb]
  rfl
theorem c_cools {lw y : Nat} (C : CX n t τ ρ F M) (hL : isL lw) (hy : y < tY τ) : ∃ M', f_X2_cools lw n (nI y) M = some (nI (cwN F τ ρ y), M') ∧ FrD lwS M M' := by
  obtain ⟨M', e, f⟩ := c_law0 C hL hy (k := 2) (by omega)
  refine ⟨M', ?_, f⟩
  unfold f_X2_cools
  rw [show f_X2_lawOf lw 2 = f_X2_lawOf lw (nI 2) from rfl, e, sb, c_held, sb]
  rfl
theorem c_leaves {lw y : Nat} (C : CX n t τ ρ F M) (hL : isL lw) (hy : y < tY τ) : ∃ M', f_X2_leaves lw n (nI y) M = some (if lvB F τ ρ y then 1 else 0, M') ∧ FrD lwS M M' := by
  obtain ⟨M', e, f⟩ := c_law0 C hL hy (k := 3) (by omega)
  refine ⟨M', ?_, f⟩
  unfold f_X2_leaves lvB
  rw [show f_X2_lawOf lw 3 = f_X2_lawOf lw (nI 3) from rfl, e, sb]
  by_cases h : F 3 (uV τ ρ y 0 0) ≤ 0
  · rw [if_pos h, decide_eq_false (Int32.not_lt.mpr h)]
    rfl
  · rw [if_neg h, decide_eq_true (Int32.not_le.mp h)]
    rfl
theorem gwN_le (y w : Nat) : gwN F τ ρ y w ≤ 99 := hlN_le _
theorem waN_le (y w : Nat) : waN F τ ρ y w ≤ 99 := hlN_le _
theorem cwN_le (y : Nat) : cwN F τ ρ y ≤ 99 := hlN_le _
theorem wgN_le (y w : Nat) : wgN F τ ρ y w ≤ 999 := by
  unfold wgN
  split
  · omega
  · split <;> omega
theorem hm_0 {y : Nat} (h : ρ (12 + y) = 0) : hmB ρ y = false := by simp [hmB, h]
theorem hm_1 {y : Nat} (h : ρ (12 + y) = 1) : hmB ρ y = true := by simp [hmB, h]
theorem c_would {lw y w : Nat} (C : CX n t τ ρ F M) (hL : isL lw) (hy : y < tY τ) (hw : w < tW τ) : ∃ M', f_X2_glowIfTold lw n (nI y) (nI w) M = some (nI (wgN F τ ρ y w), M') ∧ FrD lwS M M' := by
  have hY : tY τ ≤ 6 := C.1.2.2.1
  obtain ⟨M', e, f⟩ := c_lawW C hL hy hw (k := 0) (by omega)
  have hb := (C.2.1.2.1 y (by omega)).2.1
  have hg := (C.2.1.2.1 y (by omega)).1
  have h9 := gwN_le (F := F) (τ := τ) (ρ := ρ) y w
  unfold f_X2_glowIfTold
  rw [c_home C.2.2.2.1 C.2.1 (by omega), sb]
  by_cases h : ρ (12 + y) = 1
  · refine ⟨M, ?_, FrD.rf⟩
    rw [hm_1 h, if_pos rfl, if_neg ne10, wgN, if_pos h]
    rfl
  · refine ⟨M', ?_, f⟩
    rw [hm_0 (by omega), if_neg Bool.false_ne_true, if_pos rfl, ag_n (by omega) (by omega), sb, show f_X2_lawOf lw 0 = f_X2_lawOf lw (nI 0) from rfl, e, sb, c_held, sb, (C.2.2.2.1.2.2.2.2.2.2.2.1 y (by omega)).1]
    show lt (if nI (ρ (6 + y)) + nI (gwN F τ ρ y w) < nI 999 then nI (ρ (6 + y)) + nI (gwN F τ ρ y w) else nI 999) _ = _
    rw [nI_add, c_min (by omega) (by omega), lt_def, wgN, if_neg h]
-- the reference
theorem r_lawW {y w k : Nat} {pl : Int32} (C : RX v τ ρ F M) (hk : k < 4) (hp : pl = if k = 0 then nI (ρ (36 + w)) else if k = 1 then 1 else 0) : ∃ M', f_X12_lawTells (nI k) pl (wrM M 101 0 (uV τ ρ y (nI (ρ (36 + w))) (nI (ρ (41 + w)))) 9) = some (F k (uV τ ρ y (nI (ρ (36 + w))) (nI (ρ (41 + w)))), M') ∧ FrN [101, 102] M M' := r_law C.2.2.2.2.1 C.2.2.2.2.2 hk hp
theorem r_glows {y w : Nat} (C : RX v τ ρ F M) (hy : y < tY τ) (hw : w < tW τ) : ∃ M', f_X12_glowsOf (nI y) (nI w) M = some (nI (gwN F τ ρ y w), M') ∧ FrN [101, 102] M M' := by
  have hW : tW τ ≤ 5 := C.1.2.2.2.1
  obtain ⟨M', e, f⟩ := r_lawW (y := y) (w := w) (k := 0) (pl := nI (ρ (36 + w))) C (by omega) rfl
  refine ⟨M', ?_, f⟩
  unfold f_X12_glowsOf
  rw [li 36, li 41, nI_add, nI_add, ag_n (by omega) (by omega), sb, C.2.2.2.1.1 (36 + w) (by omega) (by omega), ag_n (by omega) (by omega), sb, C.2.2.2.1.1 (41 + w) (by omega) (by omega), r_looks C.1 C.2.2.1 C.2.2.2.1 hy, sb, ag_n (by omega) (by omega), sb, wr_cell (by decide), C.2.2.2.1.1 (36 + w) (by omega) (by omega), show f_X12_lawTells 0 = f_X12_lawTells (nI 0) from rfl, e, sb, r_held, sb]
  rfl
theorem r_wears {y w : Nat} (C : RX v τ ρ F M) (hy : y < tY τ) (hw : w < tW τ) : ∃ M', f_X12_wearsOf (nI y) (nI w) M = some (nI (waN F τ ρ y w), M') ∧ FrN [101, 102] M M' := by
  have hW : tW τ ≤ 5 := C.1.2.2.2.1
  obtain ⟨M', e, f⟩ := r_lawW (y := y) (w := w) (k := 1) (pl := 1) C (by omega) rfl
  refine ⟨M', ?_, f⟩
  unfold f_X12_wearsOf
  rw [li 36, li 41, nI_add, nI_add, ag_n (by omega) (by omega), sb, C.2.2.2.1.1 (36 + w) (by omega) (by omega), ag_n (by omega) (by omega), sb, C.2.2.2.1.1 (41 + w) (by omega) (by omega), r_looks C.1 C.2.2.1 C.2.2.2.1 hy, sb, show f_X12_lawTells 1 = f_X12_lawTells (nI 1) from rfl, e, sb, r_held, sb]
  rfl
theorem r_cools {y : Nat} (C : RX v τ ρ F M) (hy : y < tY τ) : ∃ M', f_X12_coolsOf (nI y) M = some (nI (cwN F τ ρ y), M') ∧ FrN [101, 102] M M' := by
  obtain ⟨M', e, f⟩ := r_law (y := y) (τ := τ) (ρ := ρ) (M := M) (h := 0) (w := 0) (pl := 0) (k := 2) C.2.2.2.2.1 C.2.2.2.2.2 (by omega) rfl
  refine ⟨M', ?_, f⟩
  unfold f_X12_coolsOf
  rw [r_looks C.1 C.2.2.1 C.2.2.2.1 hy, sb, show f_X12_lawTells 2 = f_X12_lawTells (nI 2) from rfl, e, sb, r_held, sb]
  rfl
theorem r_leaves {y : Nat} (C : RX v τ ρ F M) (hy : y < tY τ) : ∃ M', f_X12_doesLeave (nI y) M = some (if ρ (12 + y) = 0 ∧ lvB F τ ρ y = true then 1 else 0, M') ∧ FrN [101, 102] M M' := by
  have hY : tY τ ≤ 6 := C.1.2.2.1
  have hb := (C.2.1.2.1 y (by omega)).2.1
  obtain ⟨M', e, f⟩ := r_law (y := y) (τ := τ) (ρ := ρ) (M := M) (h := 0) (w := 0) (pl := 0) (k := 3) C.2.2.2.2.1 C.2.2.2.2.2 (by omega) rfl
  unfold f_X12_doesLeave lvB
  rw [r_looks C.1 C.2.2.1 C.2.2.2.1 hy, sb, li 12, nI_add, ag_n (by omega) (by omega), sb, wr_cell (by decide), C.2.2.2.1.1 (12 + y) (by omega) (by omega)]
  by_cases h0 : ρ (12 + y) = 0
  · refine ⟨M', ?_, f⟩
    rw [h0, if_pos nI_0, show f_X12_lawTells 3 = f_X12_lawTells (nI 3) from rfl, e, sb]
    by_cases h : F 3 (uV τ ρ y 0 0) ≤ 0
    · rw [if_pos h, if_neg]
      rintro ⟨-, z⟩
      exact Int32.not_lt.mpr h (of_decide_eq_true z)
    · rw [if_neg h, if_pos ⟨rfl, decide_eq_true (Int32.not_le.mp h)⟩]
  · refine ⟨wrM M 101 0 (uV τ ρ y 0 0) 9, ?_, ⟨fun a ha _ => wr_cell (fun z => ha (by simp [z])), fun k _ => congrFun (wr_cell (by decide)) k, rfl⟩⟩
    rw [if_neg (nI_ne0 (by omega) (by omega)), if_neg (fun z => h0 z.1)]
theorem r_glowBy {y w : Nat} (C : RX v τ ρ F M) (hy : y < tY τ) (hw : w < tW τ) (h : ρ (12 + y) = 0) : ∃ M', f_X12_glowBy (nI y) (nI w) M = some (nI (wgN F τ ρ y w), M') ∧ FrN [101, 102] M M' := by
  have hY : tY τ ≤ 6 := C.1.2.2.1
  have hg := (C.2.1.2.1 y (by omega)).1
  have h9 := gwN_le (F := F) (τ := τ) (ρ := ρ) y w
  obtain ⟨M', e, f⟩ := r_glows C hy hw
  refine ⟨M', ?_, f⟩
  unfold f_X12_glowBy
  rw [li 6, nI_add, ag_n (by omega) (by omega), sb, C.2.2.2.1.1 (6 + y) (by omega) (by omega), e, sb, li 999]
  show (f_X12_within (nI (ρ (6 + y)) + nI (gwN F τ ρ y w)) 0 (nI 999)).bind _ = _
  rw [nI_add, r_within (by omega) (by omega), sb, wgN, if_neg (show ¬ ρ (12 + y) = 1 by omega)]
theorem r_would {y w : Nat} (C : RX v τ ρ F M) (hy : y < tY τ) (hw : w < tW τ) : ∃ M', f_X12_wouldGlow (nI y) (nI w) M = some (nI (wgN F τ ρ y w), M') ∧ FrN [101, 102] M M' := by
  have hY : tY τ ≤ 6 := C.1.2.2.1
  have hb := (C.2.1.2.1 y (by omega)).2.1
  unfold f_X12_wouldGlow
  rw [li 12, nI_add, ag_n (by omega) (by omega), sb, C.2.2.2.1.1 (12 + y) (by omega) (by omega)]
  by_cases h : ρ (12 + y) = 1
  · refine ⟨M, ?_, FrN.rf⟩
    rw [h, if_pos (show nI 1 = 1 from rfl), wgN, if_pos h]
    rfl
  · obtain ⟨M', e, f⟩ := r_glowBy C hy hw (by omega)
    refine ⟨M', ?_, f⟩
    rw [show ρ (12 + y) = 0 by omega, if_neg (by decide), e, sb]
end CXS
-- from Rel to the two contexts
section RELX
variable {t v : Nat} {τ : Nat → Nat → Nat} {ρ : Nat → Nat} {F : Nat → (Nat → Int32) → Int32} {M M' : Mem}
theorem RelP.cx (R : RelP t v τ ρ F M) : CX 60 t τ ρ F M := ⟨R.1, R.2.1, R.2.2.1, R.2.2.2.2.1, R.2.2.2.2.2.2.2.2.2.2.2.2.1.1, R.2.2.2.2.2.2.2.2.2.2.2.2.1.2.1⟩
theorem RelP.kp (R : RelP t v τ ρ F M) (k : Kp M M') : RelP t v τ ρ F M' := R.kx k.x (X := []) (XF := []) (by decide) (by decide) (by decide) (by decide) R.2.1 (R.2.2.2.2.1.kp k) (R.2.2.2.2.2.1.kx (X := []) (XF := []) k.x (by decide)) (R.2.2.2.2.2.2.2.1.kp k) (R.2.2.2.2.2.2.2.2.1.kp k) (R.2.2.2.2.2.2.2.2.2.1.kx (X := []) (XF := []) k.x (by decide) (by decide)) (R.2.2.2.2.2.2.2.2.2.2.1.kx (X := []) (XF := []) k.x (by decide) (by decide)) (R.2.2.2.2.2.2.2.2.2.2.2.2.2.1.kx (X := []) (XF := []) k.x (by decide))
theorem RelP.fl (R : RelP t v τ ρ F M) (f : FrD lwS M M') : RelP t v τ ρ F M' := R.kp (f.c.kp (by decide))
/-- copies, and what stands then -/
theorem RelP.rx (R : RelP t v τ ρ F M) : ∃ M', f_X12_copies M = some M' ∧ RelP t v τ ρ F M' ∧ RX v τ ρ F M' ∧ FrM [104] M M' ∧ M'.1 67 55 = nI (tE τ) ∧ M'.1 67 56 = 0 := by
  obtain ⟨M', e, f, nr, e5, e6⟩ := r_copy R.2.2.2.2.2.1 R.2.2.2.1
  have R' := R.kp (f.kp (by decide))
  exact ⟨M', e, R', ⟨R.1, R.2.1, R'.2.2.2.1, nr, R'.2.2.2.2.2.2.2.2.2.2.2.2.1.1, R'.2.2.2.2.2.2.2.2.2.2.2.2.1.2.2⟩, f, e5, e6⟩
theorem RelP.fm {S : List Nat} (R : RelP t v τ ρ F M) (f : FrM S M M') (hS : S.all (fun a => !keepA.contains a) = true) : RelP t v τ ρ F M' := R.kp (f.kp hS)
theorem RelP.rel (R : RelP t v τ ρ F M) : Rel M := ⟨t, v, τ, ρ, F, R⟩
end RELX

-- 83.code: pure: the class reckons a piece of code
section CCODE
variable {lw t : Nat} {M M' : Mem} {k : Mem → Option (Int32 × Mem)}
theorem evS_0 {u : Nat → Int32} {x : Nat × Nat} {c : List (Nat × Nat)} {s : List Int32} (y : x.1 = 0) : evS u (x :: c) s = evS u c (nI x.2 :: s) := by
  show (if x.1 = 0 then _ else _) = _
  rw [if_pos y]
theorem evS_1 {u : Nat → Int32} {x : Nat × Nat} {c : List (Nat × Nat)} {s : List Int32} (y : x.1 = 1) : evS u (x :: c) s = evS u c (u x.2 :: s) := by
  show (if x.1 = 0 then _ else if x.1 = 1 then _ else _) = _
  rw [if_neg (by omega), if_pos y]
theorem evS_o {u : Nat → Int32} {x : Nat × Nat} {c : List (Nat × Nat)} {a b : Int32} {r : List Int32} (y : 2 ≤ x.1) : evS u (x :: c) (b :: a :: r) = if x.1 = 5 ∧ b = 0 then none else evS u c (apO x.1 a b :: r) := by
  show (if x.1 = 0 then _ else if x.1 = 1 then _ else _) = _
  rw [if_neg (by omega), if_neg (by omega)]
/-- a piece of code -/
theorem c_code {T : Nat} (ht : isT t) (hL : isL lw) : ∀ (c : List (Nat × Nat)) (n q h' fu : Nat) (s : List Int32) (M : Mem), wfE 24 c s.length h' → s.length ≤ 24 → CD t M n c → ST (lw + 2) M s → M.1 t 9 = nI T → T ≤ 407 → n + c.length < T → q ≤ n → c.length < fu → (evS (M.1 (lw + 1)) c s = none → ∃ M', f_X2_run_L8 lw t k fu (nI s.length) (nI n) (nI q) M = some (0, M') ∧ FrD [lw + 2] M M') ∧ ∀ s', evS (M.1 (lw + 1)) c s = some s' → ∃ M', f_X2_run_L8 lw t k fu (nI s.length) (nI n) (nI q) M = f_X2_run_L8 lw t k (fu - c.length) (nI s'.length) (nI (n + c.length)) (nI (q + c.length)) M' ∧ FrD [lw + 2] M M' ∧ ST (lw + 2) M' s'
  | [], n, q, h', fu, s, M, w, a6, C, S, h9, hT, hn, hq, hf => ⟨fun e => (by cases e), fun s' e => (by cases e; exact ⟨M, rfl, FrD.rf, S⟩)⟩
  | x :: c, n, q, h', fu, s, M, w, a6, C, S, h9, hT, hn, hq, hf => by
    obtain ⟨z, rfl⟩ : ∃ z, fu = z + 1 := ⟨fu - 1, by omega⟩
    have hl : lw ≠ t ∧ lw + 2 ≠ t ∧ lw + 2 ≠ t + 9 ∧ lw + 2 ≠ lw + 1 := by
      have := isT_le ht
      rcases hL with e | e <;> omega
    rw [List.length_cons] at hn hf
    have R : RN t n q T M := ⟨h9, hT, by omega, hq⟩
    have cont : ∀ (a : Nat) (v : Int32) (s2 : List Int32), ST (lw + 2) (sI M (lw + 2) a v) s2 → wfE 24 c s2.length h' → s2.length ≤ 24 → f_X2_run_L8 lw t k (z + 1) (nI s.length) (nI n) (nI q) M = f_X2_run_L8 lw t k z (nI s2.length) (nI (n + 1)) (nI (q + 1)) (sI M (lw + 2) a v) → evS (M.1 (lw + 1)) (x :: c) s = evS (M.1 (lw + 1)) c s2 → (evS (M.1 (lw + 1)) (x :: c) s = none → ∃ M', f_X2_run_L8 lw t k (z + 1) (nI s.length) (nI n) (nI q) M = some (0, M') ∧ FrD [lw + 2] M M') ∧ ∀ s', evS (M.1 (lw + 1)) (x :: c) s = some s' → ∃ M', f_X2_run_L8 lw t k (z + 1) (nI s.length) (nI n) (nI q) M = f_X2_run_L8 lw t k (z + 1 - (x :: c).length) (nI s'.length) (nI (n + (x :: c).length)) (nI (q + (x :: c).length)) M' ∧ FrD [lw + 2] M M' ∧ ST (lw + 2) M' s' := by
      intro a v s2 S2 w2 w3 e1 e2
      have f1 : FrD [lw + 2] M (sI M (lw + 2) a v) := FrD.set (by simp)
      have u1 : (sI M (lw + 2) a v).1 (lw + 1) = M.1 (lw + 1) := sI_cell (by omega)
      have ih := c_code ht hL c (n + 1) (q + 1) h' z s2 (sI M (lw + 2) a v) w2 w3 (C.2.of (fun j _ _ => congrFun (sI_cell (by omega)) j)) S2 ((congrFun (sI_cell (by omega)) 9).trans h9) hT (by omega) (by omega) (by omega)
      rw [u1] at ih
      rw [e1, e2]
      refine ⟨fun e => ?_, fun s' e => ?_⟩
      · obtain ⟨M', a1, a2⟩ := ih.1 e
        exact ⟨M', a1, f1.tr a2⟩
      · obtain ⟨M', a1, a2, a3⟩ := ih.2 s' e
        refine ⟨M', ?_, f1.tr a2, a3⟩
        rw [a1, List.length_cons, show z + 1 - (c.length + 1) = z - c.length by omega, show n + 1 + c.length = n + (c.length + 1) by omega, show q + 1 + c.length = q + (c.length + 1) by omega]
    rcases w with ⟨a1, a2, a3, a4, a5⟩ | ⟨a1, a2, a3, a4, a5⟩
    · rcases (by omega : x.1 = 0 ∨ x.1 = 1) with y | y
      · refine cont s.length (nI x.2) (nI x.2 :: s) S.push (by rw [List.length_cons]; exact a5) (by rw [List.length_cons]; omega) (rn_0 R ?_ a4 a2) (evS_0 y)
        exact C.1.trans (by unfold cdC; rw [y]; rfl)
      · refine cont s.length (M.1 (lw + 1) x.2) (M.1 (lw + 1) x.2 :: s) S.push (by rw [List.length_cons]; exact a5) (by rw [List.length_cons]; omega) (rn_1 R ?_ (a3 y) a2) (evS_1 y)
        exact C.1.trans (by unfold cdC; rw [y]; rfl)
    · match s, a4, a5, S, cont, a6 with
      | [], a4, a5, S, cont, a6 => rw [List.length_nil] at a4; omega
      | [_], a4, a5, S, cont, a6 => rw [List.length_singleton] at a4; omega
      | b :: a :: r, a4, a5, S, cont, a6 =>
        rw [List.length_cons, List.length_cons] at a5
        have hb : M.1 (lw + 2) (r.length + 1) = b := S.1
        have ha : M.1 (lw + 2) r.length = a := S.2.1
        have C1 : M.1 (t + 9) n = nI (ccN x.1 * 16384 + 0) := by
          rw [C.1]
          unfold cdC
          rw [a3]
        have rn := rn_o (lw := lw) (k := k) (fu := z) (h := r.length) R C1 a1 a2 (by rw [List.length_cons, List.length_cons] at a6; omega)
        rw [hb, ha] at rn
        by_cases y : x.1 = 5 ∧ b = 0
        · rw [if_pos y] at rn
          refine ⟨fun _ => ⟨M, rn, FrD.rf⟩, fun s' e => ?_⟩
          rw [evS_o a1, if_pos y] at e
          cases e
        · rw [if_neg y] at rn
          exact cont r.length (apO x.1 a b) (apO x.1 a b :: r) S.2.2.push (by rw [List.length_cons]; exact a5) (by rw [List.length_cons]; rw [List.length_cons, List.length_cons] at a6; omega) rn (by rw [evS_o a1, if_neg y])
end CCODE

-- 38.law: pure: a law asked by the class
theorem c_law {lw n t y k : Nat} {τ : Nat → Nat → Nat} {ρ : Nat → Nat} {F : Nat → (Nat → Int32) → Int32} {M : Mem} {x4 h w : Int32} (hw : wfT τ) (hL : isL lw) (hT : TC t τ M) (hN : NC n t τ ρ M) (LF : LawF F) (LC : LawC t F M) (hy : y < tY τ) (hk : k < 4) (e1 : (if x4 = -1 then some (0 : Int32) else (ag M (n + 5) 5 x4).bind fun v4 => some v4) = some h) (e2 : (if x4 = -1 then some (0 : Int32) else (ag M (n + 6) 5 x4).bind fun v4 => some v4) = some w) : ∃ M', f_X2_lawOf lw (nI k) n (nI y) x4 M = some (F k (uV τ ρ y h w), M') ∧ FrD [lw + 1, lw + 2] M M' := by
  have hl : 20 < lw + 1 ∧ lw + 1 < 38 := by
    rcases hL with e | e <;> omega
  have ht : t ≤ 11 := by
    rcases hT.1 with e | e <;> omega
  have c : ∀ j, j < 10 → (wrM M (lw + 1) 0 (uV τ ρ y h w) 9).1 (t + j) = M.1 (t + j) := fun j hj => wr_cell (by omega)
  obtain ⟨M', r1, r2⟩ := LC (wrM M (lw + 1) 0 (uV τ ρ y h w) 9) (c 0 (by decide)) (c 8 (by decide)) (c 9 (by decide)) lw hL k hk
  refine ⟨M', ?_, ?_⟩
  · rw [c_vars hw hL hT hN hy hk e1 e2, r1, sb]
    have e : F k ((wrM M (lw + 1) 0 (uV τ ρ y h w) 9).1 (lw + 1)) = F k (uV τ ρ y h w) := LF k _ _ (fun i hi => by
      have := wr_at (M := M) (a := lw + 1) (l := 0) (B := uV τ ρ y h w) hi
      rw [Nat.zero_add] at this
      exact this)
    rw [e]
  · refine ⟨fun a ha => ?_, r2.2⟩
    have h1 : a ≠ lw + 1 := fun z => ha (by simp [z])
    have h2 : a ∉ [lw + 2] := fun z => ha (List.mem_cons_of_mem _ z)
    exact (r2.1 a h2).trans (wr_cell h1)

-- 37.lawof: pure: the nine variables, class side
theorem TC.wr {t a l k : Nat} {τ : Nat → Nat → Nat} {M : Mem} {B : Nat → Int32} (h : TC t τ M) (ha : 20 < a) : TC t τ (wrM M a l B k) := by
  have ht : t ≤ 11 := by
    rcases h.1 with e | e <;> omega
  have c : ∀ j, j < 10 → (wrM M a l B k).1 (t + j) = M.1 (t + j) := fun j hj => wr_cell (by omega)
  have c0 : (wrM M a l B k).1 t = M.1 t := c 0 (by decide)
  unfold TC at h ⊢
  rw [c0, c 1 (by decide), c 2 (by decide), c 3 (by decide), c 4 (by decide), c 5 (by decide)]
  exact h
theorem NC.wr {n t a l k : Nat} {τ : Nat → Nat → Nat} {ρ : Nat → Nat} {M : Mem} {B : Nat → Int32} (h : NC n t τ ρ M) (ha : a < 38) : NC n t τ ρ (wrM M a l B k) := by
  have hn : 38 ≤ n := by
    rcases h.1 with e | e <;> omega
  have c : ∀ j, (wrM M a l B k).1 (n + j) = M.1 (n + j) := fun j => wr_cell (by omega)
  have c0 : (wrM M a l B k).1 n = M.1 n := c 0
  unfold NC at h ⊢
  rw [c0, c 1, c 2, c 3, c 4, c 5, c 6]
  exact h

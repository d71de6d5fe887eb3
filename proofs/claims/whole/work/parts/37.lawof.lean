-- 37.lawof: pure: the nine variables, class side
theorem TC.wr {t a l k : Nat} {τ : Nat → Nat → Nat} {M : Mem} {B : Nat → Int32} (h : TC t τ M) (ha : 20 < a) : TC t τ (wrM M a l B k) := by
  have ht : t ≤ 11 := by
    rcases h.1 with e | e <;> omega
  have c : ∀ j, j < 10 → (wrM M a l B k).1 (t + j) = M.1 (t + j) := fun j hj => wr_cell (by omega)
  have c0 : (wrM M a l B k).1 t = M.1 t := c 0 (by decide)
  unfold TC at h ⊢
  rw [c0, c 1 (by decide), c 2 (by decide), c 3 (by decide), c 4 (by decide), c 5 (by decide)]
  exact h
theorem NC.wr {n t a l k : Nat} {τ : Nat → Nat → Nat} {ρ : Nat → Nat} {M : Mem} {B : Nat → Int32} (h : NC n t τ ρ M) (ha : a < 38) : NC n t τ ρ (wrM M a l B k) := by
  have hn : 38 ≤ n := by
    rcases h.1 with e | e <;> omega
  have c : ∀ j, (wrM M a l B k).1 (n + j) = M.1 (n + j) := fun j => wr_cell (by omega)
  have c0 : (wrM M a l B k).1 n = M.1 n := c 0
  unfold NC at h ⊢
  rw [c0, c 1, c 2, c 3, c 4, c 5, c 6]
  exact h
theorem c_vars {lw n t y k : Nat} {τ : Nat → Nat → Nat} {ρ : Nat → Nat} {M : Mem} {x4 h w : Int32} (hw : wfT τ) (hL : isL lw) (hT : TC t τ M) (hN : NC n t τ ρ M) (hy : y < tY τ) (hk : k < 4) (e1 : (if x4 = -1 then some (0 : Int32) else (ag M (n + 5) 5 x4).bind fun v4 => some v4) = some h) (e2 : (if x4 = -1 then some (0 : Int32) else (ag M (n + 6) 5 x4).bind fun v4 => some v4) = some w) : f_X2_lawOf lw (nI k) n (nI y) x4 M = (f_X2_run lw t ((wrM M (lw + 1) 0 (uV τ ρ y h w) 9).1 (t + 8) k) (wrM M (lw + 1) 0 (uV τ ρ y h w) 9)).bind fun t25 => some (t25.1, t25.2) := by
  have hY : tY τ ≤ 6 := hw.2.2.1
  have hl : 20 < lw + 1 ∧ lw + 1 < 38 := by
    rcases hL with e | e <;> omega
  have hn : 38 ≤ n := by
    rcases hN.1 with e | e <;> omega
  have T : ∀ q, TC t τ (wrM M (lw + 1) 0 (uV τ ρ y h w) q) := fun q => hT.wr hl.1
  have N : ∀ q, NC n t τ ρ (wrM M (lw + 1) 0 (uV τ ρ y h w) q) := fun q => hN.wr hl.2
  have e2' : (if x4 = -1 then some (0 : Int32) else (ag (wrM M (lw + 1) 0 (uV τ ρ y h w) 3) (n + 6) 5 x4).bind fun v4 => some v4) = some w := by
    rw [← e2]
    unfold ag
    rw [wr_cell (by omega)]
  have w1 : sI M (lw + 1) 0 h = wrM M (lw + 1) 0 (uV τ ρ y h w) 1 := by
    have := wr_s (M := M) (a := lw + 1) (l := 0) (n := 0) (B := uV τ ρ y h w)
    rw [wr_0] at this
    exact this
  have s : ∀ q, sI (wrM M (lw + 1) 0 (uV τ ρ y h w) q) (lw + 1) q (uV τ ρ y h w q) = wrM M (lw + 1) 0 (uV τ ρ y h w) (q + 1) := fun q => by
    have := wr_s (M := M) (a := lw + 1) (l := 0) (n := q) (B := uV τ ρ y h w)
    rw [Nat.zero_add] at this
    exact this
  have s1 : sI (wrM M (lw + 1) 0 (uV τ ρ y h w) 1) (lw + 1) 1 (nI (τ 4 y)) = wrM M (lw + 1) 0 (uV τ ρ y h w) 2 := s 1
  have s2 : sI (wrM M (lw + 1) 0 (uV τ ρ y h w) 2) (lw + 1) 2 (nI (τ 5 y)) = wrM M (lw + 1) 0 (uV τ ρ y h w) 3 := s 2
  have s3 : sI (wrM M (lw + 1) 0 (uV τ ρ y h w) 3) (lw + 1) 3 w = wrM M (lw + 1) 0 (uV τ ρ y h w) 4 := s 3
  have s4 : sI (wrM M (lw + 1) 0 (uV τ ρ y h w) 4) (lw + 1) 4 (nI (ρ 47) - nI (ρ (24 + y))) = wrM M (lw + 1) 0 (uV τ ρ y h w) 5 := s 4
  have s5 : sI (wrM M (lw + 1) 0 (uV τ ρ y h w) 5) (lw + 1) 5 (nI (ρ 47) - nI (ρ 47) / nI 24 * nI 24) = wrM M (lw + 1) 0 (uV τ ρ y h w) 6 := s 5
  have s6 : sI (wrM M (lw + 1) 0 (uV τ ρ y h w) 6) (lw + 1) 6 (nI (ρ (6 + y))) = wrM M (lw + 1) 0 (uV τ ρ y h w) 7 := s 6
  have s7 : sI (wrM M (lw + 1) 0 (uV τ ρ y h w) 7) (lw + 1) 7 (nI y) = wrM M (lw + 1) 0 (uV τ ρ y h w) 8 := s 7
  have s8 : sI (wrM M (lw + 1) 0 (uV τ ρ y h w) 8) (lw + 1) 8 (nI (ρ (18 + y))) = wrM M (lw + 1) 0 (uV τ ρ y h w) 9 := s 8
  unfold f_X2_lawOf
  rw [rT_n hN.2.1 hT.1, sb, e1, sb, show pg M (lw + 1) 9 0 h = pg M (lw + 1) 9 (nI 0) h from rfl, pg_n (by omega) (by omega), sb, w1, li 1, li 2, li 3, li 4, li 5, li 6, li 7, li 8, li 24]
  rw [ag_n (by omega) (by omega), sb, ((T 1).2.2.2.2.2.2.2.2 y hy).1, pg_n (by omega) (by omega), sb, s1]
  rw [ag_n (by omega) (by omega), sb, ((T 2).2.2.2.2.2.2.2.2 y hy).2, pg_n (by omega) (by omega), sb, s2]
  rw [show (-nI 1 : Int32) = -1 from rfl, e2', sb, pg_n (by omega) (by omega), sb, s3]
  unfold f_X3_since
  rw [ag_n (by omega) (by omega), sb, sb, (N 4).2.2.1, ((N 4).2.2.2.2.2.2.2.1 y (by omega)).2.2, pg_n (by omega) (by omega), sb, s4, (N 5).2.2.1, pg_n (by omega) (by omega), sb, s5]
  rw [ag_n (by omega) (by omega), sb, ((N 6).2.2.2.2.2.2.2.1 y (by omega)).1, pg_n (by omega) (by omega), sb, s6, pg_n (by omega) (by omega), sb, s7]
  rw [ag_n (by omega) (by omega), sb, ((N 8).2.2.2.2.2.2.2.1 y (by omega)).2.1, pg_n (by omega) (by omega), sb, s8, ag_n (by omega) (by omega), sb]

-- 36.laws: pure: the nine variables of the laws
def uV (τ : Nat → Nat → Nat) (ρ : Nat → Nat) (y : Nat) (h w : Int32) (k : Nat) : Int32 := if k = 0 then h else if k = 1 then nI (τ 4 y) else if k = 2 then nI (τ 5 y) else if k = 3 then w else if k = 4 then nI (ρ 47) - nI (ρ (24 + y)) else if k = 5 then nI (ρ 47) - nI (ρ 47) / nI 24 * nI 24 else if k = 6 then nI (ρ (6 + y)) else if k = 7 then nI y else nI (ρ (18 + y))
theorem r_looks {v y : Nat} {τ : Nat → Nat → Nat} {ρ : Nat → Nat} {M : Mem} {h w : Int32} (hw : wfT τ) (hT : TR v τ M) (hN : NR 104 τ ρ M) (hy : y < tY τ) : f_X12_looks (nI y) h w M = some (wrM M 101 0 (uV τ ρ y h w) 9) := by
  have hY : tY τ ≤ 6 := hw.2.2.1
  have hv : v ≤ 1 := hT.1
  have T : ∀ n, TR v τ (wrM M 101 0 (uV τ ρ y h w) n) := fun n => hT.fr (FrM.wr (S := [101]) (by decide) (by decide)) (by decide)
  have N : ∀ n, NR 104 τ ρ (wrM M 101 0 (uV τ ρ y h w) n) := fun n => hN.fr (FrM.wr (S := [101]) (by decide) (by decide)) (by decide) (by decide)
  have w1 : sI M 101 0 h = wrM M 101 0 (uV τ ρ y h w) 1 := by
    have := wr_s (M := M) (a := 101) (l := 0) (n := 0) (B := uV τ ρ y h w)
    rw [wr_0] at this
    exact this
  have s : ∀ n, sI (wrM M 101 0 (uV τ ρ y h w) n) 101 n (uV τ ρ y h w n) = wrM M 101 0 (uV τ ρ y h w) (n + 1) := fun n => by
    have := wr_s (M := M) (a := 101) (l := 0) (n := n) (B := uV τ ρ y h w)
    rw [Nat.zero_add] at this
    exact this
  have s1 : sI (wrM M 101 0 (uV τ ρ y h w) 1) 101 1 (nI (τ 4 y)) = wrM M 101 0 (uV τ ρ y h w) 2 := s 1
  have s2 : sI (wrM M 101 0 (uV τ ρ y h w) 2) 101 2 (nI (τ 5 y)) = wrM M 101 0 (uV τ ρ y h w) 3 := s 2
  have s3 : sI (wrM M 101 0 (uV τ ρ y h w) 3) 101 3 w = wrM M 101 0 (uV τ ρ y h w) 4 := s 3
  have s4 : sI (wrM M 101 0 (uV τ ρ y h w) 4) 101 4 (nI (ρ 47) - nI (ρ (24 + y))) = wrM M 101 0 (uV τ ρ y h w) 5 := s 4
  have s5 : sI (wrM M 101 0 (uV τ ρ y h w) 5) 101 5 (nI (ρ 47) - nI (ρ 47) / nI 24 * nI 24) = wrM M 101 0 (uV τ ρ y h w) 6 := s 5
  have s6 : sI (wrM M 101 0 (uV τ ρ y h w) 6) 101 6 (nI (ρ (6 + y))) = wrM M 101 0 (uV τ ρ y h w) 7 := s 6
  have s7 : sI (wrM M 101 0 (uV τ ρ y h w) 7) 101 7 (nI y) = wrM M 101 0 (uV τ ρ y h w) 8 := s 7
  have s8 : sI (wrM M 101 0 (uV τ ρ y h w) 8) 101 8 (nI (ρ (18 + y))) = wrM M 101 0 (uV τ ρ y h w) 9 := s 8
  unfold f_X12_looks
  rw [show (0 : Int32) = nI 0 from rfl, li 1, li 2, li 3, li 4, li 5, li 6, li 7, li 8, li 47, li 24, li 18, pg_n (by omega) (by omega), sb, w1]
  rw [(T 1).2.1, pk_mul, nI_add, ag_n (by omega) (by omega), sb, ((T 1).2.2.2.2.2.2.2.2.2 y hy).1, pg_n (by omega) (by omega), sb, s1]
  rw [(T 2).2.1, pk_mul, nI_add, ag_n (by omega) (by omega), sb, ((T 2).2.2.2.2.2.2.2.2.2 y hy).2, pg_n (by omega) (by omega), sb, s2, pg_n (by omega) (by omega), sb, s3]
  rw [ag_n (by omega) (by omega), sb, (N 4).1 47 (by omega) (by omega), nI_add, ag_n (by omega) (by omega), sb, (N 4).1 (24 + y) (by omega) (by omega), pg_n (by omega) (by omega), sb, s4]
  rw [ag_n (by omega) (by omega), sb, (N 5).1 47 (by omega) (by omega), pg_n (by omega) (by omega), sb, s5]
  rw [nI_add, ag_n (by omega) (by omega), sb, (N 6).1 (6 + y) (by omega) (by omega), pg_n (by omega) (by omega), sb, s6, pg_n (by omega) (by omega), sb, s7]
  rw [nI_add, ag_n (by omega) (by omega), sb, (N 8).1 (18 + y) (by omega) (by omega), pg_n (by omega) (by omega), sb, s8]

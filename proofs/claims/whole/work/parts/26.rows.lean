-- 26.rows: pure: a night written into a row and back; hold, restore
theorem wr_at {M : Mem} {a l n k : Nat} {B : Nat → Int32} (hk : k < n) : (wrM M a l B n).1 a (l + k) = B k := by
  show (if a = a ∧ l ≤ l + k ∧ l + k < l + n then B (l + k - l) else M.1 a (l + k)) = B k
  rw [if_pos ⟨rfl, by omega, by omega⟩, show l + k - l = k by omega]
theorem wr_out {M : Mem} {a l n j : Nat} {B : Nat → Int32} (hj : j < l ∨ l + n ≤ j) : (wrM M a l B n).1 a j = M.1 a j := if_neg (by omega)
theorem wr_cp {M : Mem} {a src l n m : Nat} {B : Nat → Int32} (h : src ≠ a) (hB : ∀ k, k < m → B (n + k) = M.1 src k) : cpM (wrM M a l B n) src a 0 (l + n) m = wrM M a l B (n + m) := by
  apply Prod.ext
  · funext c j
    rw [cp1, wr_cell h]
    show (if c = a ∧ l + n ≤ j ∧ j < l + n + m then M.1 src (0 + (j - (l + n))) else if c = a ∧ l ≤ j ∧ j < l + n then B (j - l) else M.1 c j) = if c = a ∧ l ≤ j ∧ j < l + (n + m) then B (j - l) else M.1 c j
    by_cases h1 : c = a ∧ l + n ≤ j ∧ j < l + n + m
    · rw [if_pos h1, if_pos ⟨h1.1, by omega, by omega⟩, Nat.zero_add, ← hB (j - (l + n)) (by omega), show n + (j - (l + n)) = j - l by omega]
    · rw [if_neg h1]
      by_cases h2 : c = a ∧ l ≤ j ∧ j < l + n
      · rw [if_pos h2, if_pos ⟨h2.1, h2.2.1, by omega⟩]
      · rw [if_neg h2, if_neg]
        intro h3
        by_cases h4 : j < l + n
        · exact h2 ⟨h3.1, h3.2.1, h4⟩
        · exact h1 ⟨h3.1, by omega, by omega⟩
  · rfl
theorem RC.of {id off : Nat} {τ : Nat → Nat → Nat} {ρ : Nat → Nat} {M M' : Mem} (hw : wfT τ) (h : RC id off τ ρ M) (e : ∀ k, k < 38 → M'.1 id (off + k) = M.1 id (off + k)) : RC id off τ ρ M' := by
  have hY : tY τ ≤ 6 := hw.2.2.1
  obtain ⟨h1, h2, h3, h4, h5, h6, h7⟩ := h
  refine ⟨(e 0 (by omega)).trans h1, fun q => (e 1 (by omega)).trans (h2 q), (e 2 (by omega)).trans h3, (e 3 (by omega)).trans h4, fun y hy => ?_, fun y hy => ⟨?_, ?_, ?_⟩, fun w hw => ⟨?_, ?_⟩⟩
  · rw [← h5 y hy, Nat.add_assoc]; exact e (4 + y) (by omega)
  · rw [← (h6 y hy).1, Nat.add_assoc]; exact e (10 + y) (by omega)
  · rw [← (h6 y hy).2.1, Nat.add_assoc]; exact e (16 + y) (by omega)
  · rw [← (h6 y hy).2.2, Nat.add_assoc]; exact e (22 + y) (by omega)
  · rw [← (h7 w hw).1, Nat.add_assoc]; exact e (28 + w) (by omega)
  · rw [← (h7 w hw).2, Nat.add_assoc]; exact e (33 + w) (by omega)
theorem RR.of {id off : Nat} {τ : Nat → Nat → Nat} {ρ : Nat → Nat} {M M' : Mem} (h : RR id off τ ρ M) (e : ∀ k, k < 48 → M'.1 id (off + k) = M.1 id (off + k)) : RR id off τ ρ M' :=
  ⟨fun k hk h46 => (e k hk).trans (h.1 k hk h46), fun q => (e 46 (by omega)).trans (h.2.1 q), fun q => (e 46 (by omega)).trans (h.2.2 q)⟩
theorem RR.to {id off : Nat} {τ : Nat → Nat → Nat} {ρ : Nat → Nat} {M M' : Mem} (h : NR 103 τ ρ M) (e : ∀ k, k < 48 → M'.1 id (off + k) = M.1 103 k) : RR id off τ ρ M' :=
  ⟨fun k hk h46 => (e k hk).trans (h.1 k hk h46), fun q => (e 46 (by omega)).trans (h.2.1 q), fun q => (e 46 (by omega)).trans (h.2.2 q)⟩
theorem NR.to {id off : Nat} {τ : Nat → Nat → Nat} {ρ : Nat → Nat} {M M' : Mem} (h : RR id off τ ρ M) (e : ∀ k, k < 48 → M'.1 103 k = M.1 id (off + k)) : NR 103 τ ρ M' :=
  ⟨fun k hk h46 => (e k hk).trans (h.1 k hk h46), fun q => (e 46 (by omega)).trans (h.2.1 q), fun q => (e 46 (by omega)).trans (h.2.2 q)⟩
/-- the class's row of the night that is now -/
def nB (M : Mem) (k : Nat) : Int32 := if k < 4 then M.1 60 (k + 1) else if k < 10 then M.1 61 (k - 4) else if k < 16 then M.1 62 (k - 10) else if k < 22 then M.1 63 (k - 16) else if k < 28 then M.1 64 (k - 22) else if k < 33 then M.1 65 (k - 28) else M.1 66 (k - 33)
theorem nB1 {M : Mem} {y : Nat} (h : y < 6) : nB M (4 + y) = M.1 61 y := by
  rw [nB, if_neg (by omega), if_pos (by omega), show 4 + y - 4 = y by omega]
theorem nB2 {M : Mem} {y : Nat} (h : y < 6) : nB M (10 + y) = M.1 62 y := by
  rw [nB, if_neg (by omega), if_neg (by omega), if_pos (by omega), show 10 + y - 10 = y by omega]
theorem nB3 {M : Mem} {y : Nat} (h : y < 6) : nB M (16 + y) = M.1 63 y := by
  rw [nB, if_neg (by omega), if_neg (by omega), if_neg (by omega), if_pos (by omega), show 16 + y - 16 = y by omega]
theorem nB4 {M : Mem} {y : Nat} (h : y < 6) : nB M (22 + y) = M.1 64 y := by
  rw [nB, if_neg (by omega), if_neg (by omega), if_neg (by omega), if_neg (by omega), if_pos (by omega), show 22 + y - 22 = y by omega]
theorem nB5 {M : Mem} {y : Nat} (h : y < 5) : nB M (28 + y) = M.1 65 y := by
  rw [nB, if_neg (by omega), if_neg (by omega), if_neg (by omega), if_neg (by omega), if_neg (by omega), if_pos (by omega), show 28 + y - 28 = y by omega]
theorem nB6 {M : Mem} {y : Nat} (h : y < 5) : nB M (33 + y) = M.1 66 y := by
  rw [nB, if_neg (by omega), if_neg (by omega), if_neg (by omega), if_neg (by omega), if_neg (by omega), if_neg (by omega), show 33 + y - 33 = y by omega]
theorem RC.wr {t a o : Nat} {τ : Nat → Nat → Nat} {ρ : Nat → Nat} {M : Mem} (hw : wfT τ) (h : NC 60 t τ ρ M) : RC a o τ ρ (wrM M a o (nB M) 38) := by
  have hY : tY τ ≤ 6 := hw.2.2.1
  obtain ⟨-, -, h1, h2, h3, h4, h5, h6, h7⟩ := h
  have e : ∀ k, k < 38 → (wrM M a o (nB M) 38).1 a (o + k) = nB M k := fun k hk => wr_at hk
  refine ⟨(e 0 (by omega)).trans h1, fun q => (e 1 (by omega)).trans (h2 q), (e 2 (by omega)).trans h3, (e 3 (by omega)).trans h4, fun y hy => ?_, fun y hy => ⟨?_, ?_, ?_⟩, fun w hw => ⟨?_, ?_⟩⟩
  · rw [Nat.add_assoc, e _ (by omega), nB1 (by omega)]; exact h5 y hy
  · rw [Nat.add_assoc, e _ (by omega), nB2 (by omega)]; exact (h6 y hy).1
  · rw [Nat.add_assoc, e _ (by omega), nB3 (by omega)]; exact (h6 y hy).2.1
  · rw [Nat.add_assoc, e _ (by omega), nB4 (by omega)]; exact (h6 y hy).2.2
  · rw [Nat.add_assoc, e _ (by omega), nB5 (by omega)]; exact (h7 w hw).1
  · rw [Nat.add_assoc, e _ (by omega), nB6 (by omega)]; exact (h7 w hw).2
theorem c_write {a n s : Nat} {M : Mem} (ha : a < 60) (hn : 38 * s + 38 ≤ n) (hn2 : n < 100000) : f_X4_write 60 a n (nI s) M = some (wrM M a (38 * s) (nB M) 38) := by
  unfold f_X4_write
  have w1 : sI M a (38 * s) (M.1 60 1) = wrM M a (38 * s) (nB M) 1 := by
    have := wr_s (M := M) (a := a) (l := 38 * s) (n := 0) (B := nB M)
    rw [wr_0] at this
    exact this
  have c : ∀ q m, 60 ≤ q → (wrM M a (38 * s) (nB M) m).1 q = M.1 q := fun q m hq => wr_cell (by omega)
  have w2 : sI (wrM M a (38 * s) (nB M) 1) a (38 * s + 1) (M.1 60 2) = wrM M a (38 * s) (nB M) 2 := wr_s (n := 1)
  have w3 : sI (wrM M a (38 * s) (nB M) 2) a (38 * s + 2) (M.1 60 3) = wrM M a (38 * s) (nB M) 3 := wr_s (n := 2)
  have w4 : sI (wrM M a (38 * s) (nB M) 3) a (38 * s + 3) (M.1 60 4) = wrM M a (38 * s) (nB M) 4 := wr_s (n := 3)
  rw [li 38, li 1, li 2, li 3, li 4, li 6, li 12, li 18, li 24, li 5, show (0 : Int32) = nI 0 from rfl, pk_mul, Nat.mul_comm s 38, lt_def, pg_n (by omega) (by omega), sb, w1, nI_add, pg_n (by omega) (by omega), sb, c 60 1 (by omega), w2, nI_add, pg_n (by omega) (by omega), sb, c 60 2 (by omega), w3, nI_add, pg_n (by omega) (by omega), sb, c 60 3 (by omega), w4, nI_add, lt_def]
  rw [cp_n (by omega) (by omega) (by omega) (by omega), sb, wr_cp (n := 4) (m := 6) (by omega) (fun k hk => nB1 hk)]
  rw [nI_add, cp_n (by omega) (by omega) (by omega) (by omega), sb, show 38 * s + 4 + 6 = 38 * s + 10 from rfl, wr_cp (n := 10) (m := 6) (by omega) (fun k hk => nB2 hk)]
  rw [nI_add, cp_n (by omega) (by omega) (by omega) (by omega), sb, show 38 * s + 4 + 12 = 38 * s + 16 from rfl, wr_cp (n := 16) (m := 6) (by omega) (fun k hk => nB3 hk)]
  rw [nI_add, cp_n (by omega) (by omega) (by omega) (by omega), sb, show 38 * s + 4 + 18 = 38 * s + 22 from rfl, wr_cp (n := 22) (m := 6) (by omega) (fun k hk => nB4 hk)]
  rw [nI_add, cp_n (by omega) (by omega) (by omega) (by omega), sb, show 38 * s + 4 + 24 = 38 * s + 28 from rfl, wr_cp (n := 28) (m := 5) (by omega) (fun k hk => nB5 hk)]
  rw [nI_add, cp_n (by omega) (by omega) (by omega) (by omega), sb, show 38 * s + 28 + 5 = 38 * s + 33 from rfl, wr_cp (n := 33) (m := 5) (by omega) (fun k hk => nB6 hk)]
/-- the night that is now, out of a row -/
def bkM (M : Mem) (a o : Nat) : Mem := cpM (cpM (cpM (cpM (cpM (cpM (sI (sI (sI (sI M 60 1 (M.1 a o)) 60 2 (M.1 a (o + 1))) 60 3 (M.1 a (o + 2))) 60 4 (M.1 a (o + 3))) a 61 (o + 4) 0 6) a 62 (o + 10) 0 6) a 63 (o + 16) 0 6) a 64 (o + 22) 0 6) a 65 (o + 28) 0 5) a 66 (o + 33) 0 5
theorem c_back {a n s : Nat} {M : Mem} (ha : a < 60) (hn : 38 * s + 38 ≤ n) (hn2 : n < 100000) : f_X4_writeBack a n (nI s) 60 M = some (bkM M a (38 * s)) := by
  unfold f_X4_writeBack
  have e : ∀ (Q : Mem) i x, (sI Q 60 i x).1 a = Q.1 a := fun Q i x => sI_cell (by omega)
  rw [li 38, li 1, li 2, li 3, li 4, li 6, li 12, li 18, li 24, li 5, show (0 : Int32) = nI 0 from rfl, pk_mul, Nat.mul_comm s 38, lt_def, ag_n (by omega) (by omega), sb, lt_def, nI_add, ag_n (by omega) (by omega), sb, lt_def, e, nI_add, ag_n (by omega) (by omega), sb, lt_def, e, e, nI_add, ag_n (by omega) (by omega), sb, lt_def, e, e, e, nI_add, lt_def]
  rw [cp_n (by omega) (by omega) (by omega) (by omega), sb]
  rw [nI_add, cp_n (by omega) (by omega) (by omega) (by omega), sb]
  rw [nI_add, cp_n (by omega) (by omega) (by omega) (by omega), sb]
  rw [nI_add, cp_n (by omega) (by omega) (by omega) (by omega), sb]
  rw [nI_add, cp_n (by omega) (by omega) (by omega) (by omega), sb]
  rw [nI_add, cp_n (by omega) (by omega) (by omega) (by omega), sb]
  rfl
theorem bk_cell {M : Mem} {a o c : Nat} (h : c < 60 ∨ 66 < c) : (bkM M a o).1 c = M.1 c := by
  unfold bkM
  rw [cp_cell (by omega), cp_cell (by omega), cp_cell (by omega), cp_cell (by omega), cp_cell (by omega), cp_cell (by omega), sI_cell (by omega), sI_cell (by omega), sI_cell (by omega), sI_cell (by omega)]
theorem NC.bk {t a o : Nat} {τ : Nat → Nat → Nat} {ρ : Nat → Nat} {M : Mem} (hw : wfT τ) (h : RC a o τ ρ M) (ha : a < 60) (h0 : M.2.2 60 0 = some t) : NC 60 t τ ρ (bkM M a o) := by
  have hY : tY τ ≤ 6 := hw.2.2.1
  obtain ⟨h1, h2, h3, h4, h5, h6, h7⟩ := h
  have f60 : (bkM M a o).1 60 = (sI (sI (sI (sI M 60 1 (M.1 a o)) 60 2 (M.1 a (o + 1))) 60 3 (M.1 a (o + 2))) 60 4 (M.1 a (o + 3))).1 60 := by
    unfold bkM
    rw [cp_cell (by omega), cp_cell (by omega), cp_cell (by omega), cp_cell (by omega), cp_cell (by omega), cp_cell (by omega)]
  have e : ∀ (Q : Mem) i x, (sI Q 60 i x).1 a = Q.1 a := fun Q i x => sI_cell (by omega)
  have g : ∀ (Q : Mem) b sp m, 60 < b → (cpM Q a b sp 0 m).1 a = Q.1 a := fun Q b sp m hb => cp_cell (by omega)
  refine ⟨Or.inr rfl, h0, ?_, fun q => ?_, ?_, ?_, fun y hy => ?_, fun y hy => ⟨?_, ?_, ?_⟩, fun w hw => ⟨?_, ?_⟩⟩
  · rw [f60, sI_ix (by decide), sI_ix (by decide), sI_ix (by decide), sI_same]; exact h1
  · rw [f60, sI_ix (by decide), sI_ix (by decide), sI_same]; exact h2 q
  · rw [f60, sI_ix (by decide), sI_same]; exact h3
  · rw [f60, sI_same]; exact h4
  · unfold bkM
    rw [cp_cell (by omega), cp_cell (by omega), cp_cell (by omega), cp_cell (by omega), cp_cell (by omega), cp1, if_pos ⟨rfl, by omega, by omega⟩, e, e, e, e]; exact h5 y hy
  · unfold bkM
    rw [cp_cell (by omega), cp_cell (by omega), cp_cell (by omega), cp_cell (by omega), cp1, if_pos ⟨rfl, by omega, by omega⟩, g _ _ _ _ (by omega), e, e, e, e]; exact (h6 y hy).1
  · unfold bkM
    rw [cp_cell (by omega), cp_cell (by omega), cp_cell (by omega), cp1, if_pos ⟨rfl, by omega, by omega⟩, g _ _ _ _ (by omega), g _ _ _ _ (by omega), e, e, e, e]; exact (h6 y hy).2.1
  · unfold bkM
    rw [cp_cell (by omega), cp_cell (by omega), cp1, if_pos ⟨rfl, by omega, by omega⟩, g _ _ _ _ (by omega), g _ _ _ _ (by omega), g _ _ _ _ (by omega), e, e, e, e]; exact (h6 y hy).2.2
  · unfold bkM
    rw [cp_cell (by omega), cp1, if_pos ⟨rfl, by omega, by omega⟩, g _ _ _ _ (by omega), g _ _ _ _ (by omega), g _ _ _ _ (by omega), g _ _ _ _ (by omega), e, e, e, e]; exact (h7 w hw).1
  · unfold bkM
    rw [cp1, if_pos ⟨rfl, by omega, by omega⟩, g _ _ _ _ (by omega), g _ _ _ _ (by omega), g _ _ _ _ (by omega), g _ _ _ _ (by omega), g _ _ _ _ (by omega), e, e, e, e]; exact (h7 w hw).2

-- 89f.tokwf: pure: the tokens cut are as the readers want them
section TWF
variable {b : Nat → Nat} {len : Nat} {kw : Nat → Int64}
theorem vl_le {i : Nat} : ∀ k, (∀ j, j < k → 48 ≤ b (i + j) ∧ b (i + j) ≤ 57) → vlN b i k + 1 ≤ 10 ^ k
  | 0, _ => by show 0 + 1 ≤ 1; omega
  | k + 1, h => by
    have ih := vl_le k (fun j hj => h j (by omega))
    have hk := h k (by omega)
    show 10 * vlN b i k + b (i + k) - 48 + 1 ≤ 10 ^ (k + 1)
    rw [Nat.pow_succ]
    omega
theorem tk_2b {i : Nat} (h : tkK b len kw i = 2) : drN b len i - i ≤ 4 := by
  unfold tkK at h
  have := sg_no (b i)
  have k1 := kw_le (kw := kw) (lN (nmN b i (lrN b len i - i))) 23
  split at h
  · omega
  · split at h
    · split at h <;> omega
    · split at h
      · split at h
        · next q => exact q
        · omega
      · omega
theorem tV_le (k : Nat) (h : tK b len kw k = 2) : tV b len k ≤ 9999 := by
  have h4 := tk_2b h
  unfold tV
  have := vl_le (b := b) (i := stN b len k) (drN b len (stN b len k) - stN b len k) (fun j hj => by
    have a := sk_all (p := isDg b len) (i := stN b len k) 2001 (stN b len k + j) (by omega) (by unfold drN at hj; omega)
    unfold isDg at a
    simp only [Bool.and_eq_true, decide_eq_true_eq] at a
    exact a.2)
  have p : 10 ^ (drN b len (stN b len k) - stN b len k) ≤ 10 ^ 4 := Nat.pow_le_pow_right (by omega) h4
  omega
theorem st_le {E : Nat} (hl : len ≤ 2000) (h : ∀ j, j < E → tK b len kw j ≠ 0 ∧ tK b len kw j ≠ 3) {j : Nat} (hj : j ≤ E) : stN b len j ≤ len := (bk_ok hl (ps_le hl j (fun q hq => (h q (by omega)).1))).2.1
/-- places ascend -/
theorem st_lt {E : Nat} (hl : len ≤ 2000) (h : ∀ j, j < E → tK b len kw j ≠ 0 ∧ tK b len kw j ≠ 3) {j : Nat} (hj : j < E) : stN b len j < stN b len (j + 1) := by
  have h2 : stN b len j < len := by
    rcases Nat.lt_or_ge (stN b len j) len with q | q
    · exact q
    · exact absurd (tk_0.mpr q) (h j hj).1
  have h3 := tkE_ok (b := b) hl h2
  have h4 := bk_ok (b := b) hl (show tkE b len (stN b len j) ≤ len from h3.2)
  show _ < bkN b len (tkE b len (stN b len j))
  omega
theorem st_mono {E : Nat} (hl : len ≤ 2000) (h : ∀ j, j < E → tK b len kw j ≠ 0 ∧ tK b len kw j ≠ 3) {i : Nat} : ∀ k, 0 < k → i + k ≤ E → stN b len i < stN b len (i + k)
  | 0, h0, _ => absurd h0 (by omega)
  | 1, _, hk => st_lt hl h (by omega)
  | k + 2, _, hk => Nat.lt_trans (st_mono hl h (k + 1) (by omega) (by omega)) (st_lt hl h (j := i + (k + 1)) (by omega))
theorem tok_wf {E : Nat} (hl : len ≤ 2000) (hE : E ≤ 400) (h : ∀ j, j < E → tK b len kw j ≠ 0 ∧ tK b len kw j ≠ 3) (h2 : E = 400 ∨ tK b len kw E = 0 ∨ tK b len kw E = 3) : wfK (tK b len kw) (stN b len) (tV b len) E := ⟨hE, fun j hj => ⟨tk_lt _, Nat.le_trans (st_le hl h hj) hl⟩, h, h2, fun j _ hk => tV_le j hk⟩
theorem TKC.tok {E : Nat} {M : Mem} (T : TKC b len kw (E + 1) M) : tokC (tK b len kw) (stN b len) (tV b len) (tN b len) E M := fun j hj => T j (by omega)
theorem TKM.tok {E E' : Nat} {M : Mem} (T : TKM b len kw (E' + 1) M) (h : E ≤ E') : tokM (tK b len kw) (stN b len) (tV b len) (tN b len) E M := fun j hj => T j (by omega)
/-- the reference cuts at least as far as the class -/
theorem cut_le {E E' : Nat} (hE : E ≤ 400) (h : ∀ j, j < E → tK b len kw j ≠ 0 ∧ tK b len kw j ≠ 3) (h' : E' = 400 ∨ tK b len kw E' = 0) : E ≤ E' := by
  rcases Nat.lt_or_ge E' E with q | q
  · rcases h' with z | z
    · omega
    · exact absurd z (h E' q).1
  · exact q
end TWF

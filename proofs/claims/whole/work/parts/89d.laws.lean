-- 89d.laws: pure: a law told, the class's and the reference's
section LWX
variable {K V P : Nat → Nat} {N : Nat → Int64} {E t v x : Nat} {M M' : Mem}
def lwH (K V : Nat → Nat) (x i : Nat) : Except (Nat × Nat) (List (Cd × Cd × Cd) × Cd × Nat) := (exK K (25 + x) i).bind fun i1 => (exK K 5 i1).bind fun i2 => lwG K V 4 i2
/-- what the class's reader of law x may write -/
def PFL (t x n : Nat) (M M' : Mem) : Prop := (∀ a, a ≠ 23 → a ≠ t → a ≠ t + 8 → a ≠ t + 9 → M'.1 a = M.1 a) ∧ (∀ i, i ≠ 9 → M'.1 t i = M.1 t i) ∧ (∀ i, i ≠ 0 → i ≠ 6 → i ≠ 7 → M'.1 23 i = M.1 23 i) ∧ (∀ q, q < n → M'.1 (t + 9) q = M.1 (t + 9) q) ∧ (∀ q, q ≠ x → M'.1 (t + 8) q = M.1 (t + 8) q) ∧ M'.2 = M.2
theorem PF.pl {n : Nat} (ht : isT t) (f : PF t n M M') : PFL t x n M M' := ⟨fun a p q _ s => f.1 a p q s, f.2.1, f.2.2.1, f.2.2.2.1, fun q _ => congrFun (f.1 (t + 8) (by have := isT_le ht; omega) (by omega) (by omega)) q, f.2.2.2.2⟩
theorem PFL.tr {n n' : Nat} {M1 : Mem} (h : PFL t x n M M1) (h' : PFL t x n' M1 M') (hn : n ≤ n') : PFL t x n M M' := ⟨fun a p q r s => (h'.1 a p q r s).trans (h.1 a p q r s), fun i p => (h'.2.1 i p).trans (h.2.1 i p), fun i p q r => (h'.2.2.1 i p q r).trans (h.2.2.1 i p q r), fun q hq => (h'.2.2.2.1 q (by omega)).trans (h.2.2.2.1 q hq), fun q hq => (h'.2.2.2.2.1 q hq).trans (h.2.2.2.2.1 q hq), h'.2.2.2.2.2.trans h.2.2.2.2.2⟩
theorem PFL.w8 {n : Nat} {y : Int32} (ht : isT t) : PFL t x n M (sI M (t + 8) x y) := ⟨fun a _ _ q _ => sI_cell q, fun i _ => congrFun (sI_cell (by omega)) i, fun i _ _ _ => congrFun (sI_cell (by have := isT_le ht; omega)) i, fun q _ => congrFun (sI_cell (by omega)) q, fun q hq => sI_ix hq, rfl⟩
theorem tokC.pl {n : Nat} (h : tokC K P V N E M) (ht : isT t) (f : PFL t x n M M') : tokC K P V N E M' := by
  have := isT_le ht
  unfold tokC at h ⊢
  rw [f.1 25 (by decide) (by omega) (by omega) (by omega), f.1 26 (by decide) (by omega) (by omega) (by omega), f.2.2.2.2.2]
  exact h
theorem DZ.w8 {e p n : Nat} {y : Int32} (ht : isT t) (D : DZ t e p n M) : DZ t e p n (sI M (t + 8) x y) := by
  have := isT_le ht
  have c23 : (sI M (t + 8) x y).1 23 = M.1 23 := sI_cell (by omega)
  have ct : (sI M (t + 8) x y).1 t = M.1 t := sI_cell (by omega)
  unfold DZ DD szG at D ⊢
  rw [c23, ct]
  exact D
theorem PS.w8 {i n : Nat} {y : Int32} (ht : isT t) (S : PS t i n M) : PS t i n (sI M (t + 8) x y) := by
  have := isT_le ht
  have c23 : (sI M (t + 8) x y).1 23 = M.1 23 := sI_cell (by omega)
  have ct : (sI M (t + 8) x y).1 t = M.1 t := sI_cell (by omega)
  unfold PS at S ⊢
  rw [c23, ct]
  exact S
theorem c_readLaw {i n : Nat} (ht : isT t) (w : wfK K P V E) (hx : x < 4) (T : tokC K P V N E M) (hi : i ≤ E) (S : PS t i n M) (hn : n ≤ 6 + i) (hk : K i = 25 + x) : ∃ M', f_X6_readLaw (nI x) M = some M' ∧ PFL t x n M M' ∧ (∀ r, lwH K V x i = .ok r → PS t r.2.2 (n + lwZ r.1 r.2.1) M' ∧ LC0 t M' n r.1 r.2.1 ∧ M'.1 (t + 8) x = nI n ∧ i < r.2.2 ∧ r.2.2 ≤ E ∧ n + lwZ r.1 r.2.1 ≤ 6 + r.2.2) ∧ ∀ y, lwH K V x i = .error y → DZ t y.1 (P y.2) n M' := by
  have hE := w.1
  have hFU : FU = 1000000 := rfl
  have l8 := isT_le ht
  obtain ⟨M1, e1, f1, p1, p2⟩ := c_go ht T hi hE S (by omega)
  have z1 : szG t n M1 := szG_of ((congrFun (pass9 ht e1) 9).trans S.2.2.1) (by omega) (Nat.le_refl _)
  have run : ∀ {M2 A} {y : Int32}, f_X6_expect 61 M1 = some M2 → M2.2.2 23 5 = some t → M2.1 t 9 = y → cLw FU 0 (sI M2 (t + 8) x y) = A → f_X6_readLaw (nI x) M = A := fun {M2 A y} h h5 h9 h' => by
    unfold f_X6_readLaw
    rw [if_neg (nI_pos (by omega)), li 4, if_pos (nI_lt hx (by omega)), e1, sb, h, sb, rT_n h5 ht, sb, sb, h9, pg_n (by omega) (by omega), sb, ← h']
    rfl
  have dead : ∀ {M2 : Mem} {e p : Nat}, f_X6_expect 61 M1 = some M2 → PF t n M M2 → DZ t e p n M2 → ∃ M', f_X6_readLaw (nI x) M = some M' ∧ PFL t x n M M' ∧ DZ t e p n M' := fun {M2 e p} h f D => by
    have D3 : DZ t e p n (sI M2 (t + 8) x (M2.1 t 9)) := D.w8 ht
    obtain ⟨M4, e4, f4, D4⟩ := lw_e (fu := 999999 + 1) (l2 := 0) ht (loopD D3.1) D3
    exact ⟨M4, run h D.1.2.2.2.2 rfl e4, ((f.pl ht).tr (PFL.w8 ht) (Nat.le_refl _)).tr (f4.pl ht) (Nat.le_refl _), D4⟩
  unfold lwH
  by_cases h4 : i < 400
  · have x1 : exK K (25 + x) i = .ok (i + 1) := by unfold exK; rw [if_pos hk, if_pos h4]
    rw [x1]
    obtain ⟨S1, q1⟩ := p1 h4
    have hi1 := w.nx hi (by omega) (by omega) h4
    obtain ⟨M2, e2, f2, a1, a2⟩ := ceX (k := 5) ht w (T.pf ht f1) hi1 S1 (by omega) (by omega) (by omega) (by omega)
    have F2 := f1.tr f2 (Nat.le_refl _)
    show ∃ M', f_X6_readLaw (nI x) M = some M' ∧ PFL t x n M M' ∧ (∀ r, (exK K 5 (i + 1)).bind _ = .ok r → _) ∧ ∀ y, (exK K 5 (i + 1)).bind _ = .error y → _
    cases hx5 : exK K 5 (i + 1) with
    | error y =>
      obtain ⟨D2, hy⟩ := a2 y hx5
      obtain ⟨M', r1, r2, r3⟩ := dead e2 F2 D2
      exact ⟨M', r1, r2, (fun r h => by cases h), (fun z h => by cases h; exact r3)⟩
    | ok j =>
      obtain ⟨rfl, hj, S2, q2⟩ := a1 j hx5
      have S3 : PS t (i + 1 + 1) n (sI M2 (t + 8) x (nI n)) := S2.w8 ht
      have F3 : PFL t x n M (sI M2 (t + 8) x (nI n)) := (F2.pl ht).tr (PFL.w8 ht) (Nat.le_refl _)
      obtain ⟨M', e', f', L'⟩ := c_lawB ht w 4 FU (i + 1 + 1) n (sI M2 (t + 8) x (nI n)) (by omega) (by omega) hj (T.pl ht F3) S3 (by omega)
      refine ⟨M', run e2 S2.2.2.2 S2.2.2.1 e', F3.tr (f'.pl ht) (Nat.le_refl _), fun r h => ?_, fun y h => (L'.2 y h).1⟩
      obtain ⟨b1, b2, b3, b4, b5⟩ := L'.1 r h
      exact ⟨b1, b2, (congrFun (f'.1 (t + 8) (by omega) (by omega) (by omega)) x).trans sI_same, by omega, b4, by omega⟩
  · have x1 : exK K (25 + x) i = .error (2, i) := by unfold exK; rw [if_pos hk, if_neg h4]
    rw [x1]
    have D1 : DZ t 2 (P i) n M1 := ⟨p2 (by omega), z1⟩
    obtain ⟨M', r1, r2, r3⟩ := dead (c_expD D1.1) f1 D1
    exact ⟨M', r1, r2, (fun r h => by cases h), (fun z h => by cases h; exact r3)⟩
end LWX

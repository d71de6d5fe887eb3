-- 87.claw: pure: how the class reads a law
section CLAW
variable {K V P : Nat → Nat} {N : Nat → Int64} {E t : Nat} {M M' : Mem}
def exK (K : Nat → Nat) (k i : Nat) : Except (Nat × Nat) Nat := if K i = k then (if i < 400 then .ok (i + 1) else .error (2, i)) else .error (1, i)
def lwG (K V : Nat → Nat) : Nat → Nat → Except (Nat × Nat) (List (Cd × Cd × Cd) × Cd × Nat)
  | 0, i => if K i = 31 then .error (2, i) else (rdG K V 21 0 0 i).bind fun w => .ok ([], w.1, w.2)
  | m + 1, i => if K i = 31 then (exK K 31 i).bind fun i1 => (rdG K V 21 0 0 i1).bind fun a => (exK K 13 a.2).bind fun i2 => (rdG K V 21 0 0 i2).bind fun b => (exK K 32 b.2).bind fun i3 => (rdG K V 21 0 0 i3).bind fun c => (exK K 33 c.2).bind fun i4 => (lwG K V m i4).bind fun r => .ok ((a.1, b.1, c.1) :: r.1, r.2) else (rdG K V 21 0 0 i).bind fun w => .ok ([], w.1, w.2)
def cS7 (v32 l2 : Int32) (fu : Nat) (M39 : Mem) : Option Mem := (rT M39 23 5).bind fun t40 => (f_X9_emit t40 (3 : Int32) (0 : Int32) M39).bind fun M42 => (rT M42 23 5).bind fun t43 => (f_X9_aimAtEnd t43 v32 M42).bind fun M45 => lt (l2 + 1 : Int32) fun v46 => f_X6_readLaw_L43 fu v46 M45
def cS6 (v32 l2 : Int32) (fu : Nat) (M35 : Mem) : Option Mem := (f_X6_readValue (0 : Int32) (0 : Int32) M35).bind fun M37 => (f_X6_expect (141 : Int32) M37).bind fun M39 => cS7 v32 l2 fu M39
def cS5 (l2 : Int32) (fu : Nat) (M28 : Mem) : Option Mem := (f_X6_expect (140 : Int32) M28).bind fun M30 => (rT M30 23 5).bind fun t31 => lt (M30.1 t31 9 : Int32) fun v32 => (rT M30 23 5).bind fun t33 => (f_X9_emit t33 (2 : Int32) (0 : Int32) M30).bind fun M35 => cS6 v32 l2 fu M35
def cS4 (l2 : Int32) (fu : Nat) (M24 : Mem) : Option Mem := (f_X6_expect (60 : Int32) M24).bind fun M26 => (f_X6_readValue (0 : Int32) (0 : Int32) M26).bind fun M28 => cS5 l2 fu M28
def cS3 (l2 : Int32) (fu : Nat) (M22 : Mem) : Option Mem := (f_X6_readValue (0 : Int32) (0 : Int32) M22).bind fun M24 => cS4 l2 fu M24
/-- dead, from n on -/
def DZ (t e p n : Nat) (M : Mem) : Prop := DD t e p M ∧ szG t n M
theorem rvD {e p n : Nat} (ht : isT t) (D : DZ t e p n M) : ∃ M', f_X6_readValue (0 : Int32) (0 : Int32) M = some M' ∧ PF t n M M' ∧ DZ t e p n M' := by
  obtain ⟨M', a, b, c, d⟩ := c_rdD ht 40 0 0 M e p n (by omega) (by omega) D.1 D.2
  exact ⟨M', a, b, c, d⟩
theorem aim_n {m : Nat} {x : Int32} (hx : x = nI m) (hm : m ≤ 407) : f_X9_aimAtEnd t x M = some (if m < 407 then sI M (t + 9) m ((32768 : Int32) ||| (M.1 t 9)) else M) := by
  subst hx
  unfold f_X9_aimAtEnd
  rw [if_neg (nI_pos (by omega)), li 407]
  by_cases h : m < 407
  · rw [if_neg (nI_ge h (by omega)), pg_n h (by omega), sb, if_pos h]
  · rw [if_pos (nI_le (by omega) (by omega)), if_neg h]
theorem aim_pf {n m : Nat} {x : Int32} (ht : isT t) (hn : n ≤ m) : PF t n M (sI M (t + 9) m x) := ⟨fun a _ _ q => sI_cell q, fun i _ => congrFun (sI_cell (by omega)) i, fun i _ _ _ => congrFun (sI_cell (Ne.symm (isT_23 ht).2.1)) i, fun q hq => sI_ix (by omega), rfl⟩
theorem loopD {e p : Nat} {fu : Nat} {l : Int32} (D : DD t e p M) : f_X6_readLaw_L43 (fu + 1) l M = some M := by
  rw [f_X6_readLaw_L43, if_neg D.n0, ite_self]
theorem DZ.aim {e p n m : Nat} {x : Int32} (ht : isT t) (D : DZ t e p n M) : DZ t e p n (sI M (t + 9) m x) := by
  have t23 := isT_23 ht
  have c23 : (sI M (t + 9) m x).1 23 = M.1 23 := sI_cell (Ne.symm t23.2.1)
  have ct : (sI M (t + 9) m x).1 t = M.1 t := sI_cell (by omega)
  obtain ⟨⟨d1, d2, d3, d4, d5⟩, g⟩ := D
  refine ⟨⟨⟨(congrFun c23 7).trans d1.1, d1.2⟩, (congrFun c23 0).trans d2, ?_, ?_, d5⟩, fun m' e' h' => g m' ((congrFun ct 9).symm.trans e') h'⟩
  · obtain ⟨a, ha, h⟩ := d3
    exact ⟨a, ha, (congrFun c23 6).trans h⟩
  · obtain ⟨a, ha, h⟩ := d4
    exact ⟨a, ha, (congrFun ct 9).trans h⟩
theorem s7D {e p n m fu : Nat} {v32 l2 : Int32} (ht : isT t) (D : DZ t e p n M) (hv : v32 = nI m) (hm : m ≤ 407) (hn : n ≤ m) : ∃ M', cS7 v32 l2 (fu + 1) M = some M' ∧ PF t n M M' ∧ DZ t e p n M' := by
  obtain ⟨M1, e1, f1, D1, g1⟩ := c_emitD (x := 3) (y := 0) ht D.1 D.2
  unfold cS7
  rw [rT_n D.1.2.2.2.2 ht, sb, e1, sb, rT_n D1.2.2.2.2 ht, sb, aim_n hv hm, sb, lt_def]
  by_cases h : m < 407
  · have D2 : DZ t e p n (sI M1 (t + 9) m ((32768 : Int32) ||| (M1.1 t 9))) := DZ.aim ht ⟨D1, g1⟩
    rw [if_pos h, loopD D2.1]
    exact ⟨_, rfl, f1.tr (aim_pf ht hn) (Nat.le_refl _), D2⟩
  · rw [if_neg h, loopD D1]
    exact ⟨M1, rfl, f1, D1, g1⟩
theorem s6D {e p n m fu : Nat} {v32 l2 : Int32} (ht : isT t) (D : DZ t e p n M) (hv : v32 = nI m) (hm : m ≤ 407) (hn : n ≤ m) : ∃ M', cS6 v32 l2 (fu + 1) M = some M' ∧ PF t n M M' ∧ DZ t e p n M' := by
  obtain ⟨M1, e1, f1, D1⟩ := rvD ht D
  obtain ⟨M2, e2, f2, D2⟩ := s7D (l2 := l2) (fu := fu) ht D1 hv hm hn
  exact ⟨M2, by unfold cS6; rw [e1, sb, c_expD D1.1, sb, e2], f1.tr f2 (Nat.le_refl _), D2⟩
theorem s5D {e p n fu : Nat} {l2 : Int32} (ht : isT t) (D : DZ t e p n M) : ∃ M', cS5 l2 (fu + 1) M = some M' ∧ PF t n M M' ∧ DZ t e p n M' := by
  obtain ⟨M1, e1, f1, D1, g1⟩ := c_emitD (x := 2) (y := 0) ht D.1 D.2
  obtain ⟨m, hm, h9⟩ := D.1.2.2.2.1
  obtain ⟨M2, e2, f2, D2⟩ := s6D (l2 := l2) (fu := fu) ht ⟨D1, g1⟩ h9 hm (D.2 m h9 hm)
  exact ⟨M2, by unfold cS5; rw [c_expD D.1, sb, rT_n D.1.2.2.2.2 ht, sb, lt_def, sb, e1, sb, e2], f1.tr f2 (Nat.le_refl _), D2⟩
theorem s4D {e p n fu : Nat} {l2 : Int32} (ht : isT t) (D : DZ t e p n M) : ∃ M', cS4 l2 (fu + 1) M = some M' ∧ PF t n M M' ∧ DZ t e p n M' := by
  obtain ⟨M1, e1, f1, D1⟩ := rvD ht D
  obtain ⟨M2, e2, f2, D2⟩ := s5D (l2 := l2) (fu := fu) ht D1
  exact ⟨M2, by unfold cS4; rw [c_expD D.1, sb, e1, sb, e2], f1.tr f2 (Nat.le_refl _), D2⟩
theorem s3D {e p n fu : Nat} {l2 : Int32} (ht : isT t) (D : DZ t e p n M) : ∃ M', cS3 l2 (fu + 1) M = some M' ∧ PF t n M M' ∧ DZ t e p n M' := by
  obtain ⟨M1, e1, f1, D1⟩ := rvD ht D
  obtain ⟨M2, e2, f2, D2⟩ := s4D (l2 := l2) (fu := fu) ht D1
  exact ⟨M2, by unfold cS3; rw [e1, sb, e2], f1.tr f2 (Nat.le_refl _), D2⟩
/-- behind the branches: the last term and its answer -/
def cLw (fu : Nat) (l2 : Int32) (M : Mem) : Option Mem := (f_X6_readLaw_L43 fu l2 M).bind fun t47 => (f_X6_readValue (0 : Int32) (0 : Int32) t47).bind fun M50 => (rT M50 23 5).bind fun t51 => (f_X9_emit t51 (3 : Int32) (0 : Int32) M50).bind fun M53 => some M53
theorem lw_e {fu : Nat} {l2 : Int32} {M1 : Mem} {e p n : Nat} (ht : isT t) (h : f_X6_readLaw_L43 fu l2 M = some M1) (D : DZ t e p n M1) : ∃ M', cLw fu l2 M = some M' ∧ PF t n M1 M' ∧ DZ t e p n M' := by
  obtain ⟨M2, e2, f2, D2⟩ := rvD ht D
  obtain ⟨M3, e3, f3, D3, g3⟩ := c_emitD (x := 3) (y := 0) ht D2.1 D2.2
  exact ⟨M3, by unfold cLw; rw [h, sb, e2, sb, rT_n D2.1.2.2.2.2 ht, sb, e3, sb], f2.tr f3 (Nat.le_refl _), D3, g3⟩
/-- a token that must be there -/
theorem ceX {i n k : Nat} (ht : isT t) (w : wfK K P V E) (T : tokC K P V N E M) (hi : i ≤ E) (S : PS t i n M) (hn : n ≤ 407) (hk : k < 43) (h0 : k ≠ 0) (h3 : k ≠ 3) : ∃ M', f_X6_expect (nI (cmN k)) M = some M' ∧ PF t n M M' ∧ (∀ j, exK K k i = .ok j → j = i + 1 ∧ j ≤ E ∧ PS t j n M' ∧ M'.1 (t + 9) = M.1 (t + 9)) ∧ ∀ x, exK K k i = .error x → DZ t x.1 (P x.2) n M' ∧ x.2 ≤ E := by
  obtain ⟨M1, e1, f1, a1, a2, a3⟩ := c_expect (k := k) ht w T hi S hn hk
  have z9 : szG t n M1 := szG_of ((congrFun (exp9 ht e1) 9).trans S.2.2.1) hn (Nat.le_refl _)
  refine ⟨M1, e1, f1, fun j h => ?_, fun x h => ?_⟩
  · unfold exK at h
    by_cases q : K i = k
    · rw [if_pos q] at h
      by_cases q4 : i < 400
      · rw [if_pos q4] at h
        cases h
        obtain ⟨b1, b2⟩ := a1 q q4
        exact ⟨rfl, w.nx hi (by omega) (by omega) q4, b1, b2⟩
      · rw [if_neg q4] at h; cases h
    · rw [if_neg q] at h; cases h
  · unfold exK at h
    by_cases q : K i = k
    · rw [if_pos q] at h
      by_cases q4 : i < 400
      · rw [if_pos q4] at h; cases h
      · rw [if_neg q4] at h
        cases h
        exact ⟨⟨a2 q (by have := w.1; omega), z9⟩, hi⟩
    · rw [if_neg q] at h
      cases h
      exact ⟨⟨a3 q, z9⟩, hi⟩
theorem rvX {i n : Nat} (ht : isT t) (w : wfK K P V E) (T : tokC K P V N E M) (hi : i ≤ E) (S : PS t i n M) (hn : n ≤ 6 + i) : ∃ M', f_X6_readValue (0 : Int32) (0 : Int32) M = some M' ∧ PF t n M M' ∧ (∀ r, rdG K V 21 0 0 i = .ok r → PS t r.2 (n + r.1.length) M' ∧ CD t M' n r.1 ∧ i < r.2 ∧ r.2 ≤ E ∧ i + r.1.length ≤ r.2) ∧ ∀ x, rdG K V 21 0 0 i = .error x → DZ t x.1 (P x.2) n M' ∧ x.2 ≤ E := by
  obtain ⟨M', e1, f1, O1⟩ := c_rd (f := 21) (q := 40) (lv := 0) (d := 0) ht w (by omega) (by omega) (by omega) (by omega) i n M hi T S hn
  refine ⟨M', e1, f1, fun r h => ?_, fun x h => ?_⟩
  · rw [h] at O1
    exact O1
  · rw [h] at O1
    exact ⟨⟨O1.2.2.1, O1.2.2.2⟩, O1.2.1⟩
end CLAW

-- 89a.rlaw4: pure: how the reference reads a law, dead and the last term
section RLB
variable {H : Nat} {K V P : Nat → Nat} {N : Nat → Int64} {E v x : Nat} {M M' : Mem}
def rKF (x1 v3 : Int32) (t33 : Mem) : Option Mem :=
      (pz t33 93 260 (t33.1 67 39) (0 : Int32)).bind fun M34 =>
      (f_X12_term M34).bind fun M36 =>
      (f_X12_must (4 : Int32) M36).bind fun M38 =>
      if M38.1 67 13 ≤ 0 then
        (pg M38 91 8 (((4 : Int32) * (M38.1 67 19)) + x1) v3).bind fun M40 =>
        (pg M40 92 8 (((4 : Int32) * (M40.1 67 19)) + x1) (M40.1 67 39)).bind fun M41 =>
        some M41
      else
        some M38
def rT5 (x1 v3 l3 : Int32) (fu : Nat) (M28 : Mem) : Option Mem := (f_X12_term M28).bind fun M30 => (f_X12_must (33 : Int32) M30).bind fun M32 => f_X12_tellLaw_L12 (rKF x1 v3) fu x1 v3 l3 M32
def rT4 (x1 v3 l3 : Int32) (fu : Nat) (M22 : Mem) : Option Mem := (if M22.1 67 13 = 0 then (f_X12_expression M22).bind fun M26 => some M26 else some M22).bind fun t23 => (f_X12_must (32 : Int32) t23).bind fun M28 => rT5 x1 v3 l3 fu M28
def rT3 (x1 v3 l3 : Int32) (fu : Nat) (M19 : Mem) : Option Mem := (f_X12_must (13 : Int32) M19).bind fun M21 => (pg M21 95 260 (M21.1 67 39) (M21.1 67 45)).bind fun M22 => rT4 x1 v3 l3 fu M22
def rT2 (x1 v3 l3 : Int32) (fu : Nat) (M17 : Mem) : Option Mem := (f_X12_expression M17).bind fun M19 => rT3 x1 v3 l3 fu M19
def rT1 (x1 v3 l3 : Int32) (fu : Nat) (M15 : Mem) : Option Mem := (pz M15 93 260 (M15.1 67 39) (1 : Int32)).bind fun M16 => (pg M16 94 260 (M16.1 67 39) (M16.1 67 45)).bind fun M17 => rT2 x1 v3 l3 fu M17
theorem GD.wr {a j e p g : Nat} {y : Int32} (h : GD e p g M) (ha : a ≠ 67) : GD e p g (sI M a j y) := ⟨h.1.wr ha, (congrFun (sI_cell (Ne.symm ha)) 39).trans h.2⟩
theorem kfD {e p g n : Nat} {x1 v3 : Int32} (hv : v ≤ 1) (h : GD e p g M) (hg : g < 130 * v + 130) : ∃ M', rKF x1 v3 M = some M' ∧ QL v x g n M M' ∧ QD e p M' := by
  obtain ⟨M2, e2, f2, D2⟩ := r_trD (v := v) (x := x) (n := n) (h.wr (a := 93) (j := g) (y := 0) (by decide)) hg hv
  refine ⟨M2, ?_, (QL.br (by omega) (by omega) (Nat.le_refl _) hg).tr f2 (Nat.le_refl _) (Nat.le_refl _), D2.1⟩
  unfold rKF
  rw [h.2, pz_n (by omega) (by omega), sb, show vp_nar .boolean (0 : Int32) = 0 by decide, e2, sb, r_mustD D2.1, sb, if_neg D2.1.nl]
theorem t5D {e p g n fu : Nat} {x1 v3 l3 : Int32} (hv : v ≤ 1) (h : GD e p g M) (hg : g + 1 < 130 * v + 130) : ∃ M', rT5 x1 v3 l3 (fu + 1) M = some M' ∧ QL v x g n M M' ∧ QD e p M' := by
  obtain ⟨M1, e1, f1, D1⟩ := r_trD (v := v) (x := x) (n := n) h (by omega) hv
  obtain ⟨M2, e2, f2, D2⟩ := kfD (x := x) (n := n) (x1 := x1) (v3 := v3) hv D1 hg
  refine ⟨M2, ?_, f1.tr f2 (by omega) (Nat.le_refl _), D2⟩
  unfold rT5
  rw [e1, sb, r_mustD D1.1, sb, f_X12_tellLaw_L12, if_neg D1.1.n0, e2]
theorem t4D {e p g n fu : Nat} {x1 v3 l3 : Int32} (hv : v ≤ 1) (h : GD e p g M) (hg : g + 1 < 130 * v + 130) : ∃ M', rT4 x1 v3 l3 (fu + 1) M = some M' ∧ QL v x g n M M' ∧ QD e p M' := by
  obtain ⟨M2, e2, f2, D2⟩ := t5D (x := x) (n := n) (fu := fu) (x1 := x1) (v3 := v3) (l3 := l3) hv h hg
  refine ⟨M2, ?_, f2, D2⟩
  unfold rT4
  rw [if_neg h.1.n0, sb, r_mustD h.1, sb, e2]
theorem t3D {e p g n fu : Nat} {x1 v3 l3 : Int32} (hv : v ≤ 1) (h : GD e p g M) (hg : g + 1 < 130 * v + 130) : ∃ M', rT3 x1 v3 l3 (fu + 1) M = some M' ∧ QL v x g n M M' ∧ QD e p M' := by
  obtain ⟨M2, e2, f2, D2⟩ := t4D (x := x) (n := n) (fu := fu) (x1 := x1) (v3 := v3) (l3 := l3) hv (h.wr (a := 95) (j := g) (y := M.1 67 45) (by decide)) hg
  refine ⟨M2, ?_, (QL.br (by omega) (by omega) (Nat.le_refl _) (by omega)).tr f2 (Nat.le_refl _) (Nat.le_refl _), D2⟩
  unfold rT3
  rw [r_mustD h.1, sb, h.2, pg_n (by omega) (by omega), sb, e2]
theorem t2D {e p g n fu : Nat} {x1 v3 l3 : Int32} (hv : v ≤ 1) (h : GD e p g M) (hg : g + 1 < 130 * v + 130) : ∃ M', rT2 x1 v3 l3 (fu + 1) M = some M' ∧ QL v x g n M M' ∧ QD e p M' := by
  have f1 : QF (420 * v + 420) n M (sI M 67 49 0) := QF.fd (by decide)
  have D1 : GD e p g (sI M 67 49 0) := by
    obtain ⟨a, ha, h1⟩ := h.1.2.2
    exact ⟨⟨⟨(sI_ix (by decide)).trans h.1.1.1, h.1.1.2⟩, (sI_ix (by decide)).trans h.1.2.1, a, ha, (sI_ix (by decide)).trans h1⟩, (sI_ix (by decide)).trans h.2⟩
  obtain ⟨M2, e2, f2, D2⟩ := t3D (x := x) (n := n) (fu := fu) (x1 := x1) (v3 := v3) (l3 := l3) hv D1 hg
  refine ⟨M2, ?_, f1.ql.tr f2 (Nat.le_refl _) (Nat.le_refl _), D2⟩
  unfold rT2 f_X12_expression
  rw [lt_def, lt_def, show FU = 999999 + 1 from rfl, f_X12_expression_L12, if_neg (by decide), if_neg D1.1.n0, sb, e2]
theorem t1D {e p g n fu : Nat} {x1 v3 l3 : Int32} (hv : v ≤ 1) (h : GD e p g M) (hg : g + 1 < 130 * v + 130) : ∃ M', rT1 x1 v3 l3 (fu + 1) M = some M' ∧ QL v x g n M M' ∧ QD e p M' := by
  have h1 : GD e p g (sI M 93 g 1) := h.wr (by decide)
  obtain ⟨M2, e2, f2, D2⟩ := t2D (x := x) (n := n) (fu := fu) (x1 := x1) (v3 := v3) (l3 := l3) hv (h1.wr (a := 94) (j := g) (y := (sI M 93 g 1).1 67 45) (by decide)) hg
  refine ⟨M2, ?_, (QL.br (by omega) (by omega) (Nat.le_refl _) (by omega)).tr ((QL.br (by omega) (by omega) (Nat.le_refl _) (by omega)).tr f2 (Nat.le_refl _) (Nat.le_refl _)) (Nat.le_refl _) (Nat.le_refl _), D2⟩
  unfold rT1
  rw [h.2, pz_n (by omega) (by omega), sb, show vp_nar .boolean (1 : Int32) = 1 by decide, h1.2, pg_n (by omega) (by omega), sb, e2]
/-- an expression, a token that must be there: in the words of a law -/
theorem r_exX {i g n : Nat} (w : wfK K P V E) (T : tokM K P V N E M) (hi : i ≤ E) (hv : v ≤ 1) (S : GS i g n M) (hn : n ≤ 420 * v + i) : ∃ M', f_X12_expression M = some M' ∧ QF (420 * v + 420) n M M' ∧ (∀ r, rdG K V 21 0 0 i = .ok r → GS r.2 g (n + r.1.length) M' ∧ CM M' n r.1 ∧ i < r.2 ∧ r.2 ≤ E ∧ i + r.1.length ≤ r.2) ∧ ∀ y, rdG K V 21 0 0 i = .error y → GD y.1 (P y.2) g M' := by
  obtain ⟨M2, e2, f2, a1, a2⟩ := r_expr (H := 420 * v + 420) (x := 0) (by omega) w T hi S.1 S.2.1 S.2.2.1 S.2.2.2.1 (by omega)
  have g2 : M2.1 67 39 = nI g := (f2.2.1 39 (by decide)).trans S.2.2.2.2
  refine ⟨M2, e2, f2, fun r h => ?_, fun y h => ⟨a2 y h, g2⟩⟩
  obtain ⟨b1, b2, b3, b4, b5, b6, b7, b8⟩ := a1 r h
  exact ⟨⟨b1, b2, b3, b4, g2⟩, b5, b6, b7, b8⟩
theorem r_muX {i k g n : Nat} (w : wfK K P V E) (T : tokM K P V N E M) (hi : i ≤ E) (S : GS i g n M) (hk : k < 43) (k0 : k ≠ 0) (k3 : k ≠ 3) : ∃ M', f_X12_must (nI k) M = some M' ∧ QF H n M M' ∧ (∀ j, exK K k i = .ok j → j = i + 1 ∧ j ≤ E ∧ GS j g n M' ∧ M'.1 98 = M.1 98 ∧ M'.1 99 = M.1 99) ∧ ∀ y, exK K k i = .error y → GD y.1 (P y.2) g M' := by
  obtain ⟨M1, e1, f1, ⟨b1, b2, b3⟩, a1, a2⟩ := r_mustX (H := H) (n := n) w T hi S.1 S.2.1 hk k0 k3
  have g1 : M1.1 67 39 = nI g := (f1.2.1 39 (by decide)).trans S.2.2.2.2
  refine ⟨M1, e1, f1, fun j h => ?_, fun y h => ⟨(a2 y h).1, g1⟩⟩
  obtain ⟨c1, c2, c3, c4, c5, c6⟩ := a1 j h
  exact ⟨c1, c2, ⟨c3, c4, b3.trans S.2.2.1, b2.trans S.2.2.2.1, g1⟩, c5, c6⟩
end RLB

-- 89.rlaw3: pure: how the reference reads a law, pieces
section RLA
variable {H : Nat} {K V P : Nat → Nat} {N : Nat → Int64} {E v x : Nat} {M M' : Mem}
theorem r_mustD {e p : Nat} {k : Int32} (h : QD e p M) : f_X12_must k M = some M := by
  unfold f_X12_must
  rw [r_isD h, sb, if_pos rfl, r_failD h, sb]
theorem r_mustX {i k n : Nat} (w : wfK K P V E) (T : tokM K P V N E M) (hi : i ≤ E) (h0 : M.1 67 13 = 0) (h1 : M.1 67 11 = nI i) (hk : k < 43) (k0 : k ≠ 0) (k3 : k ≠ 3) : ∃ M', f_X12_must (nI k) M = some M' ∧ QF H n M M' ∧ (M'.1 67 49 = M.1 67 49 ∧ M'.1 67 45 = M.1 67 45 ∧ M'.1 67 12 = M.1 67 12) ∧ (∀ j, exK K k i = .ok j → j = i + 1 ∧ j ≤ E ∧ M'.1 67 13 = 0 ∧ M'.1 67 11 = nI j ∧ M'.1 98 = M.1 98 ∧ M'.1 99 = M.1 99) ∧ ∀ y, exK K k i = .error y → QD y.1 (P y.2) M' ∧ y.2 ≤ E := by
  have hE := w.1
  unfold f_X12_must
  rw [r_is0 w T hi h0 h1 hk, sb]
  unfold exK
  by_cases q : K i = k
  · obtain ⟨M1, e1, f1, a1, a2, b1, b2, b3, b4⟩ := r_go0 (H := H) (n := n) w T hi h0 h1
    refine ⟨M1, by rw [if_pos q, if_neg (by decide), e1, sb], f1, ⟨b2, b3, b4⟩, fun j h => ?_, fun y h => ?_⟩
    · rw [if_pos q] at h
      by_cases q4 : i < 400
      · rw [if_pos q4] at h
        cases h
        obtain ⟨c1, c2, c3, c4⟩ := a1 q4
        exact ⟨rfl, w.nx hi (by omega) (by omega) q4, c1, c2, c3, c4⟩
      · rw [if_neg q4] at h; cases h
    · rw [if_pos q] at h
      by_cases q4 : i < 400
      · rw [if_pos q4] at h; cases h
      · rw [if_neg q4] at h
        cases h
        exact ⟨a2 q4, hi⟩
  · obtain ⟨M1, e1, f1, D1, b1, b2, b3, b4⟩ := r_fail0 (H := H) (n := n) (x := 1) w T hi h0 h1 (by omega) (by omega)
    refine ⟨M1, by rw [if_neg q, if_pos rfl, show f_X12_fail 1 M = some M1 from e1, sb], f1, ⟨b2, b3, b4⟩, fun j h => ?_, fun y h => ?_⟩
    · rw [if_neg q] at h; cases h
    · rw [if_neg q] at h
      cases h
      exact ⟨D1, hi⟩
/-- what reading law x of side v may write, from branch g and code n on -/
def QL (v x g n : Nat) (M M' : Mem) : Prop := (∀ a, a ≠ 67 → (a < 91 ∨ 100 < a) → M'.1 a = M.1 a) ∧ (∀ i, i ∉ [11, 12, 13, 14, 39, 45, 49] → M'.1 67 i = M.1 67 i) ∧ (∀ a, a = 91 ∨ a = 92 → ∀ q, q ≠ 4 * v + x → M'.1 a q = M.1 a q) ∧ (∀ a, 93 ≤ a → a ≤ 97 → ∀ q, q < g ∨ 130 * v + 130 ≤ q → M'.1 a q = M.1 a q) ∧ (∀ q, q < n ∨ 420 * v + 420 ≤ q → M'.1 98 q = M.1 98 q ∧ M'.1 99 q = M.1 99 q) ∧ M'.2 = M.2
theorem QL.rf {g n : Nat} : QL v x g n M M := ⟨fun _ _ _ => rfl, fun _ _ => rfl, fun _ _ _ _ => rfl, fun _ _ _ _ _ => rfl, fun _ _ => ⟨rfl, rfl⟩, rfl⟩
theorem QL.tr {g n g' n' : Nat} {M1 : Mem} (h : QL v x g n M M1) (h' : QL v x g' n' M1 M') (hg : g ≤ g') (hn : n ≤ n') : QL v x g n M M' := ⟨fun a p q => (h'.1 a p q).trans (h.1 a p q), fun i p => (h'.2.1 i p).trans (h.2.1 i p), fun a p q r => (h'.2.2.1 a p q r).trans (h.2.2.1 a p q r), fun a p r q s => (h'.2.2.2.1 a p r q (by omega)).trans (h.2.2.2.1 a p r q s), fun q hq => ⟨(h'.2.2.2.2.1 q (by omega)).1.trans (h.2.2.2.2.1 q hq).1, (h'.2.2.2.2.1 q (by omega)).2.trans (h.2.2.2.2.1 q hq).2⟩, h'.2.2.2.2.2.trans h.2.2.2.2.2⟩
theorem QF.ql {g n : Nat} (f : QF (420 * v + 420) n M M') : QL v x g n M M' := ⟨fun a p q => f.1 a p (by omega) (by omega) (by omega), fun i p => f.2.1 i (fun z => p (by simp at z ⊢; omega)), fun a p q _ => by rw [f.1 a (by omega) (by omega) (by omega) (by omega)], fun a p r q _ => by rw [f.1 a (by omega) (by omega) (by omega) (by omega)], f.2.2.1, f.2.2.2⟩
theorem QL.br {a g g' n : Nat} {y : Int32} (h1 : 93 ≤ a) (h2 : a ≤ 97) (hg : g ≤ g') (hg2 : g' < 130 * v + 130) : QL v x g n M (sI M a g' y) := ⟨fun b p q => sI_cell (by omega), fun i _ => congrFun (sI_cell (by omega)) i, fun b p q _ => congrFun (sI_cell (by omega)) q, fun b _ _ q hq => by
    by_cases z : b = a
    · subst z
      exact sI_ix (by omega)
    · exact congrFun (sI_cell z) q, fun q _ => ⟨congrFun (sI_cell (by omega)) q, congrFun (sI_cell (by omega)) q⟩, rfl⟩
theorem QL.gg {g n : Nat} {y : Int32} : QL v x g n M (sI M 67 39 y) := ⟨fun b p _ => sI_cell p, fun i p => sI_ix (fun z => p (by rw [z]; decide)), fun b p q _ => congrFun (sI_cell (by omega)) q, fun b _ _ q _ => congrFun (sI_cell (by omega)) q, fun q _ => ⟨congrFun (sI_cell (by decide)) q, congrFun (sI_cell (by decide)) q⟩, rfl⟩
theorem tokM.ql {g n : Nat} (h : tokM K P V N E M) (f : QL v x g n M M') : tokM K P V N E M' := by
  unfold tokM at h ⊢
  rw [f.1 70 (by decide) (by decide), f.1 71 (by decide) (by decide), f.1 72 (by decide) (by decide), f.2.2.2.2.2]
  exact h
def GS (i g n : Nat) (M : Mem) : Prop := M.1 67 13 = 0 ∧ M.1 67 11 = nI i ∧ M.1 67 12 = 0 ∧ M.1 67 45 = nI n ∧ M.1 67 39 = nI g
def GD (e p g : Nat) (M : Mem) : Prop := QD e p M ∧ M.1 67 39 = nI g
theorem QD.wr {a i e p : Nat} {y : Int32} (h : QD e p M) (ha : a ≠ 67) : QD e p (sI M a i y) := by
  have c : (sI M a i y).1 67 = M.1 67 := sI_cell (Ne.symm ha)
  unfold QD
  rw [c]
  exact h
theorem GS.wr {a j i g n : Nat} {y : Int32} (h : GS i g n M) (ha : a ≠ 67) : GS i g n (sI M a j y) := by
  have c : (sI M a j y).1 67 = M.1 67 := sI_cell (Ne.symm ha)
  unfold GS
  rw [c]
  exact h
/-- a term, dead -/
theorem r_trD {e p g n : Nat} (h : GD e p g M) (hg : g < 130 * v + 130) (hv : v ≤ 1) : ∃ M', f_X12_term M = some M' ∧ QL v x g n M M' ∧ GD e p (g + 1) M' := by
  let M1 := sI M 96 g (M.1 67 45)
  have D1 : QD e p M1 := h.1.wr (by decide)
  have g1 : M1.1 67 39 = nI g := (congrFun (sI_cell (by decide)) 39).trans h.2
  let M2 := sI M1 97 g (M1.1 67 45)
  have D2 : QD e p M2 := D1.wr (by decide)
  have g2 : M2.1 67 39 = nI g := (congrFun (sI_cell (by decide)) 39).trans g1
  refine ⟨sI M2 67 39 (nI (g + 1)), ?_, ((QL.br (by omega) (by omega) (Nat.le_refl _) hg).tr (QL.br (by omega) (by omega) (Nat.le_refl _) hg) (Nat.le_refl _) (Nat.le_refl _)).tr QL.gg (Nat.le_refl _) (Nat.le_refl _), ?_, sI_same⟩
  · unfold f_X12_term
    rw [h.2, pg_n (by omega) (by omega), sb, if_neg (show ¬ (sI M 96 g (M.1 67 45)).1 67 13 = 0 from D1.n0), sb, show (sI M 96 g (M.1 67 45)).1 67 39 = nI g from g1, pg_n (by omega) (by omega), sb, show (sI (sI M 96 g (M.1 67 45)) 97 g ((sI M 96 g (M.1 67 45)).1 67 45)).1 67 39 = nI g from g2, nI_1, lt_def]
  · obtain ⟨a, ha, h1⟩ := D2.2.2
    exact ⟨⟨(sI_ix (by decide)).trans D2.1.1, D2.1.2⟩, (sI_ix (by decide)).trans D2.2.1, a, ha, (sI_ix (by decide)).trans h1⟩
/-- a term -/
theorem r_trX {i g n : Nat} (w : wfK K P V E) (T : tokM K P V N E M) (hi : i ≤ E) (hv : v ≤ 1) (S : GS i g n M) (hn : n ≤ 420 * v + i) (hg : g < 130 * v + 130) : ∃ M', f_X12_term M = some M' ∧ QL v x g n M M' ∧ (∀ r, rdG K V 21 0 0 i = .ok r → GS r.2 (g + 1) (n + r.1.length) M' ∧ CM M' n r.1 ∧ M'.1 96 g = nI n ∧ M'.1 97 g = nI (n + r.1.length) ∧ M'.1 93 g = M.1 93 g ∧ M'.1 94 g = M.1 94 g ∧ M'.1 95 g = M.1 95 g ∧ i < r.2 ∧ r.2 ≤ E ∧ i + r.1.length ≤ r.2) ∧ ∀ y, rdG K V 21 0 0 i = .error y → GD y.1 (P y.2) (g + 1) M' := by
  let M1 := sI M 96 g (nI n)
  have f1 : QL v x g n M M1 := QL.br (by omega) (by omega) (Nat.le_refl _) hg
  have S1 : GS i g n M1 := S.wr (by decide)
  obtain ⟨M2, e2, f2, a1, a2⟩ := r_expr (H := 420 * v + 420) (x := 0) (by omega) w (T.ql f1) hi S1.1 S1.2.1 S1.2.2.1 S1.2.2.2.1 (by omega)
  have g2 : M2.1 67 39 = nI g := (f2.2.1 39 (by decide)).trans S1.2.2.2.2
  let M3 := sI M2 97 g (M2.1 67 45)
  have g3 : M3.1 67 39 = nI g := (congrFun (sI_cell (by decide)) 39).trans g2
  let M4 := sI M3 67 39 (nI (g + 1))
  have F4 : QL v x g n M M4 := ((f1.tr (f2.ql (g := g)) (Nat.le_refl _) (Nat.le_refl _)).tr (QL.br (by omega) (by omega) (Nat.le_refl _) hg) (Nat.le_refl _) (Nat.le_refl _)).tr QL.gg (Nat.le_refl _) (Nat.le_refl _)
  have run : f_X12_term M = some M4 := by
    unfold f_X12_term
    rw [S.2.2.2.2, S.2.2.2.1, pg_n (by omega) (by omega), sb, if_pos (show (sI M 96 g (nI n)).1 67 13 = 0 from S1.1), e2, sb, sb, g2, pg_n (by omega) (by omega), sb, show (sI M2 97 g (M2.1 67 45)).1 67 39 = nI g from g3, nI_1, lt_def]
  have cl : ∀ a, a ≠ 67 → a ≠ 97 → M4.1 a = M2.1 a := fun a p q => (sI_cell p).trans (sI_cell q)
  have fl : ∀ q, q ≠ 39 → M4.1 67 q = M2.1 67 q := fun q hq => (sI_ix hq).trans (congrFun (sI_cell (by decide)) q)
  have c2 : ∀ a, 93 ≤ a → a ≤ 97 → M2.1 a g = M1.1 a g := fun a p q => congrFun (f2.1 a (by omega) (by omega) (by omega) (by omega)) g
  refine ⟨M4, run, F4, fun r h => ?_, fun y h => ?_⟩
  · obtain ⟨b1, b2, b3, b4, b5, b6, b7, b8⟩ := a1 r h
    refine ⟨⟨(fl 13 (by decide)).trans b1, (fl 11 (by decide)).trans b2, (fl 12 (by decide)).trans b3, (fl 45 (by decide)).trans b4, sI_same⟩, b5.of (fun q _ _ => ⟨congrFun (cl 98 (by decide) (by decide)) q, congrFun (cl 99 (by decide) (by decide)) q⟩), ?_, ?_, ?_, ?_, ?_, b6, b7, b8⟩
    · exact (congrFun (cl 96 (by decide) (by decide)) g).trans ((c2 96 (by omega) (by omega)).trans sI_same)
    · exact (congrFun (sI_cell (by decide)) g).trans (sI_same.trans b4)
    · exact (congrFun (cl 93 (by decide) (by decide)) g).trans ((c2 93 (by omega) (by omega)).trans (congrFun (sI_cell (by decide)) g))
    · exact (congrFun (cl 94 (by decide) (by decide)) g).trans ((c2 94 (by omega) (by omega)).trans (congrFun (sI_cell (by decide)) g))
    · exact (congrFun (cl 95 (by decide) (by decide)) g).trans ((c2 95 (by omega) (by omega)).trans (congrFun (sI_cell (by decide)) g))
  · have D2 := a2 y h
    obtain ⟨a, ha, h1⟩ := D2.2.2
    exact ⟨⟨⟨(fl 13 (by decide)).trans D2.1.1, D2.1.2⟩, (fl 14 (by decide)).trans D2.2.1, a, ha, (fl 11 (by decide)).trans h1⟩, sI_same⟩
end RLA

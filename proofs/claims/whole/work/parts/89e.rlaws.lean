-- 89e.rlaws: pure: a law told to the reference
section LWY
variable {K V P : Nat → Nat} {N : Nat → Int64} {E v x : Nat} {M M' : Mem}
def lwHT (K V : Nat → Nat) (x i : Nat) : Except (Nat × Nat) (List (Cd × Cd × Cd) × Cd × Nat) := (lwH K V x i).bind fun r => (exK K 4 r.2.2).bind fun j => .ok (r.1, r.2.1, j)
theorem r_tellLaw {i g n : Nat} (w : wfK K P V E) (hv : v ≤ 1) (hx : x < 4) (T : tokM K P V N E M) (hi : i ≤ E) (S : GS i g n M) (h19 : M.1 67 19 = nI v) (hn : n ≤ 420 * v + i) (hn2 : 420 * v ≤ n) (hg : 130 * v ≤ g) (hg2 : 4 * g ≤ 4 * (130 * v) + i) (hk : K i = 25 + x) : ∃ M', ((f_X12_goesOn M).bind fun M73 => (f_X12_tellLaw (nI x) M73).bind fun M75 => some M75) = some M' ∧ QL v x g n M M' ∧ LT K P E v x i g n (nI g) M' (lwHT K V x i) := by
  have hE := w.1
  have hFU : FU = 1000000 := rfl
  obtain ⟨M1, e1, f1, p1, p2, b1, b2, b3, b4⟩ := r_go0 (H := 420 * v + 420) (n := n) w T hi S.1 S.2.1
  have F1 : QL v x g n M M1 := f1.ql
  have g1 : M1.1 67 39 = nI g := (f1.2.1 39 (by decide)).trans S.2.2.2.2
  have run : ∀ {M2 A}, f_X12_must 5 M1 = some M2 → M2.1 67 39 = nI g → f_X12_tellLaw_L12 (rKF (nI x) (nI g)) FU (nI x) (nI g) 0 M2 = some A → ((f_X12_goesOn M).bind fun M73 => (f_X12_tellLaw (nI x) M73).bind fun M75 => some M75) = some A := fun {M2 A} h h9 h' => by
    rw [e1, sb]
    unfold f_X12_tellLaw
    rw [h, sb, h9, lt_def]
    show (f_X12_tellLaw_L12 (rKF (nI x) (nI g)) FU (nI x) (nI g) 0 M2).bind _ = _
    rw [h', sb]
  have dead : ∀ {M2 : Mem} {e p : Nat}, f_X12_must 5 M1 = some M2 → QL v x g n M M2 → GD e p g M2 → ∃ M', ((f_X12_goesOn M).bind fun M73 => (f_X12_tellLaw (nI x) M73).bind fun M75 => some M75) = some M' ∧ QL v x g n M M' ∧ QD e p M' := fun {M2 e p} h f D => by
    obtain ⟨M3, e3, f3, D3⟩ := kfD (x := x) (n := n) (x1 := nI x) (v3 := nI g) hv D (by omega)
    exact ⟨M3, run h D.2 (by rw [show FU = 999999 + 1 from rfl, f_X12_tellLaw_L12, if_neg D.1.n0, e3]), f.tr f3 (Nat.le_refl _) (Nat.le_refl _), D3⟩
  unfold lwHT lwH
  by_cases h4 : i < 400
  · have x1 : exK K (25 + x) i = .ok (i + 1) := by unfold exK; rw [if_pos hk, if_pos h4]
    rw [x1]
    obtain ⟨u1, u2, u3, u4⟩ := p1 h4
    have S1 : GS (i + 1) g n M1 := ⟨u1, u2, b4.trans S.2.2.1, b3.trans S.2.2.2.1, g1⟩
    have hi1 := w.nx hi (by omega) (by omega) h4
    obtain ⟨M2, e2, f2, a1, a2⟩ := r_muX (H := 420 * v + 420) (k := 5) w (T.ql F1) hi1 S1 (by omega) (by omega) (by omega)
    have F2 := F1.tr (f2.ql (x := x) (g := g)) (Nat.le_refl _) (Nat.le_refl _)
    show ∃ M', ((f_X12_goesOn M).bind fun M73 => (f_X12_tellLaw (nI x) M73).bind fun M75 => some M75) = some M' ∧ QL v x g n M M' ∧ LT K P E v x i g n (nI g) M' (((exK K 5 (i + 1)).bind _).bind _)
    cases hx5 : exK K 5 (i + 1) with
    | error y =>
      obtain ⟨M', r1, r2, r3⟩ := dead e2 F2 (a2 y hx5)
      exact ⟨M', r1, r2, LT.er rfl r3⟩
    | ok j =>
      obtain ⟨rfl, hj, S2, -, -⟩ := a1 j hx5
      obtain ⟨M', e', f', L'⟩ := r_lawB (v3 := nI g) w hv hx 4 FU (i + 1 + 1) g n M2 (by omega) (by omega) hj (T.ql F2) S2 ((F2.2.1 19 (by decide)).trans h19) (by omega) hn2 hg (by omega)
      refine ⟨M', run e2 S2.2.2.2.2 e', F2.tr f' (Nat.le_refl _) (Nat.le_refl _), fun r h => ?_, L'.2⟩
      obtain ⟨c1, c2, c3, c4, c5, c6, c7⟩ := L'.1 r h
      exact ⟨c1, c2, c3, c4, by omega, c6, c7⟩
  · have x1 : exK K (25 + x) i = .error (2, i) := by unfold exK; rw [if_pos hk, if_neg h4]
    rw [x1]
    obtain ⟨M', r1, r2, r3⟩ := dead (r_mustD (p2 h4)) F1 ⟨p2 h4, g1⟩
    exact ⟨M', r1, r2, LT.er (y := (2, i)) rfl r3⟩
end LWY

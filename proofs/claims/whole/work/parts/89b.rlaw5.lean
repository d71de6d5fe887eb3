-- 89b.rlaw5: pure: the reference reads a law
section RLC
variable {K V P : Nat → Nat} {N : Nat → Int64} {E v x : Nat} {M M' : Mem}
def lwT (K V : Nat → Nat) (m i : Nat) : Except (Nat × Nat) (List (Cd × Cd × Cd) × Cd × Nat) := (lwG K V m i).bind fun r => (exK K 4 r.2.2).bind fun j => .ok (r.1, r.2.1, j)
/-- the law as it is kept, in whatever memory has its cells -/
def LMs (v g n' : Nat) (B : List (Cd × Cd × Cd)) (w : Cd) (M' : Mem) : Prop := ∀ M'' : Mem, (∀ a q, 93 ≤ a → a ≤ 97 → q < g + B.length + 1 → M''.1 a q = M'.1 a q) → (∀ q, q < n' → M''.1 98 q = M'.1 98 q ∧ M''.1 99 q = M'.1 99 q) → LM0 v M'' g B w
def LT (K P : Nat → Nat) (E v x i g n : Nat) (v3 : Int32) (M' : Mem) (res : Except (Nat × Nat) (List (Cd × Cd × Cd) × Cd × Nat)) : Prop := (∀ r, res = .ok r → (∃ n', n ≤ n' ∧ n' ≤ 420 * v + r.2.2 ∧ GS r.2.2 (g + r.1.length + 1) n' M' ∧ LMs v g n' r.1 r.2.1 M') ∧ LM0 v M' g r.1 r.2.1 ∧ M'.1 91 (4 * v + x) = v3 ∧ M'.1 92 (4 * v + x) = nI (g + r.1.length + 1) ∧ i < r.2.2 ∧ r.2.2 ≤ E ∧ 4 * (g + r.1.length + 1) ≤ 4 * (130 * v) + r.2.2) ∧ ∀ y, res = .error y → QD y.1 (P y.2) M'
theorem LT.er {i g n : Nat} {v3 : Int32} {y : Nat × Nat} {res : Except (Nat × Nat) (List (Cd × Cd × Cd) × Cd × Nat)} (e : res = .error y) (D : QD y.1 (P y.2) M') : LT K P E v x i g n v3 M' res := ⟨fun r h' => (by rw [e] at h'; cases h'), fun z h' => (by rw [e] at h'; cases h'; exact D)⟩
theorem r_lastW {i g n : Nat} {v3 : Int32} (w : wfK K P V E) (T : tokM K P V N E M) (hi : i ≤ E) (hv : v ≤ 1) (hx : x < 4) (S : GS i g n M) (h19 : M.1 67 19 = nI v) (hn : n ≤ 420 * v + i) (hn2 : 420 * v ≤ n) (hg : 130 * v ≤ g) (hg2 : 4 * g + 2 ≤ 4 * (130 * v) + i) : ∃ M', rKF (nI x) v3 M = some M' ∧ QL v x g n M M' ∧ LT K P E v x i g n v3 M' (((rdG K V 21 0 0 i).bind fun w => .ok ([], w.1, w.2)).bind fun r => (exK K 4 r.2.2).bind fun j => .ok (r.1, r.2.1, j)) := by
  have hE := w.1
  let M1 := sI M 93 g 0
  have f1 : QL v x g n M M1 := QL.br (by omega) (by omega) (Nat.le_refl _) (by omega)
  have S1 : GS i g n M1 := S.wr (by decide)
  obtain ⟨M2, e2, f2, a1, a2⟩ := r_trX (x := x) w (T.ql f1) hi hv S1 hn (by omega)
  have F2 := f1.tr f2 (Nat.le_refl _) (Nat.le_refl _)
  have run : ∀ {M3 A}, f_X12_must 4 M2 = some M3 → (if M3.1 67 13 ≤ 0 then (pg M3 91 8 (((4 : Int32) * (M3.1 67 19)) + nI x) v3).bind fun M40 => (pg M40 92 8 (((4 : Int32) * (M40.1 67 19)) + nI x) (M40.1 67 39)).bind fun M41 => some M41 else some M3) = A → rKF (nI x) v3 M = A := fun {M3 A} h h' => by
    unfold rKF
    rw [S.2.2.2.2, pz_n (by omega) (by omega), sb, show vp_nar .boolean (0 : Int32) = 0 by decide, show f_X12_term (sI M 93 g 0) = some M2 from e2, sb, h, sb, h']
  cases hr : rdG K V 21 0 0 i with
  | error y =>
    have D2 := a2 y hr
    exact ⟨M2, run (r_mustD D2.1) (if_neg D2.1.nl), F2, LT.er rfl D2.1⟩
  | ok r =>
    obtain ⟨S2, C2, b1, b2, b3, b4, b5, b6, b7, b8⟩ := a1 r hr
    obtain ⟨M3, e3, f3, c1, c2⟩ := r_muX (H := 420 * v + 420) (k := 4) w (T.ql F2) b7 S2 (by omega) (by omega) (by omega)
    have F3 := F2.tr (f3.ql (x := x) (g := g + 1)) (by omega) (by omega)
    show ∃ M', rKF (nI x) v3 M = some M' ∧ QL v x g n M M' ∧ LT K P E v x i g n v3 M' ((exK K 4 r.2).bind _)
    cases hx4 : exK K 4 r.2 with
    | error y =>
      have D3 := c2 y hx4
      exact ⟨M3, run e3 (if_neg D3.1.nl), F3, LT.er rfl D3.1⟩
    | ok j =>
      obtain ⟨rfl, hj, S3, q8, q9⟩ := c1 j hx4
      have i19 : M3.1 67 19 = nI v := (F3.2.1 19 (by decide)).trans h19
      let M4 := sI M3 91 (4 * v + x) v3
      let M5 := sI M4 92 (4 * v + x) (nI (g + 1))
      have c4 : ∀ a, a ≠ 91 → a ≠ 92 → M5.1 a = M3.1 a := fun a p q => (sI_cell q).trans (sI_cell p)
      have f5 : QL v x g n M3 M5 := ⟨fun a p q => c4 a (by omega) (by omega), fun k _ => congrFun (c4 67 (by decide) (by decide)) k, fun a p q hq => by
        rcases p with p | p <;> subst p
        · exact (congrFun (sI_cell (by decide)) q).trans (sI_ix hq)
        · exact (sI_ix hq).trans (congrFun (sI_cell (by decide)) q), fun a p q r _ => congrFun (c4 a (by omega) (by omega)) r, fun q _ => ⟨congrFun (c4 98 (by decide) (by decide)) q, congrFun (c4 99 (by decide) (by decide)) q⟩, rfl⟩
      have ix : (4 : Int32) * nI v + nI x = nI (4 * v + x) := by rw [show (4 : Int32) = nI 4 from rfl, show nI 4 * nI v = nI (4 * v) from (Int32.ofNat_mul 4 v).symm, nI_add]
      have k19 : M4.1 67 19 = nI v := (congrFun (sI_cell (by decide)) 19).trans i19
      have k39 : M4.1 67 39 = nI (g + 1) := (congrFun (sI_cell (by decide)) 39).trans S3.2.2.2.2
      have e5 : rKF (nI x) v3 M = some M5 := run e3 (by
        rw [S3.1, if_pos (by decide), i19, ix, pg_n (by omega) (by omega), sb, show (sI M3 91 (4 * v + x) v3).1 67 19 = nI v from k19, show (sI M3 91 (4 * v + x) v3).1 67 39 = nI (g + 1) from k39, ix, pg_n (by omega) (by omega), sb])
      have g9 : ∀ a, 93 ≤ a → a ≤ 97 → M5.1 a g = M2.1 a g := fun a p q => (congrFun (c4 a (by omega) (by omega)) g).trans (congrFun (f3.1 a (by omega) (by omega) (by omega) (by omega)) g)
      refine ⟨M5, e5, F3.tr f5 (Nat.le_refl _) (Nat.le_refl _), fun y hy => ?_, fun y hy => by cases hy⟩
      cases hy
      refine ⟨⟨n + r.1.length, by omega, by show n + r.1.length ≤ 420 * v + (r.2 + 1); omega, ?_, ?_⟩, ⟨⟨hg, by omega⟩, ?_, n, ⟨hn2, by show n + r.1.length ≤ 420 * v + 420; omega⟩, (g9 96 (by omega) (by omega)).trans b1, (g9 97 (by omega) (by omega)).trans b2, C2.of (fun q _ _ => ⟨(congrFun (c4 98 (by decide) (by decide)) q).trans (congrFun q8 q), (congrFun (c4 99 (by decide) (by decide)) q).trans (congrFun q9 q)⟩)⟩, (congrFun (sI_cell (by decide)) _).trans sI_same, sI_same, by show i < r.2 + 1; omega, hj, by show 4 * (g + 0 + 1) ≤ 4 * (130 * v) + (r.2 + 1); omega⟩
      · have c67 : M5.1 67 = M3.1 67 := c4 67 (by decide) (by decide)
        show GS (r.2 + 1) (g + 1) (n + r.1.length) M5
        unfold GS
        rw [c67]
        exact S3
      · intro M'' h1 h2
        have k1 : ∀ a, 93 ≤ a → a ≤ 97 → M''.1 a g = M5.1 a g := fun a p q => h1 a g p q (by omega)
        exact ⟨⟨hg, by omega⟩, (k1 93 (by omega) (by omega)).trans ((g9 93 (by omega) (by omega)).trans (b3.trans sI_same)), n, ⟨hn2, by show n + r.1.length ≤ 420 * v + 420; omega⟩, (k1 96 (by omega) (by omega)).trans ((g9 96 (by omega) (by omega)).trans b1), (k1 97 (by omega) (by omega)).trans ((g9 97 (by omega) (by omega)).trans b2), C2.of (fun q _ hq => ⟨(h2 q hq).1.trans ((congrFun (c4 98 (by decide) (by decide)) q).trans (congrFun q8 q)), (h2 q hq).2.trans ((congrFun (c4 99 (by decide) (by decide)) q).trans (congrFun q9 q))⟩)⟩
      · exact (g9 93 (by omega) (by omega)).trans (b3.trans sI_same)
end RLC

-- 86.rlw: pure: a law as the reference keeps it, and LawC, LawM
section RLW
variable {v : Nat} {M M' : Mem}
def LM0 (v : Nat) (M : Mem) : Nat → List (Cd × Cd × Cd) → Cd → Prop
  | i, [], w => (130 * v ≤ i ∧ i < 130 * v + 130) ∧ M.1 93 i = 0 ∧ ∃ p, (420 * v ≤ p ∧ p + w.length ≤ 420 * v + 420) ∧ M.1 96 i = nI p ∧ M.1 97 i = nI (p + w.length) ∧ CM M p w
  | i, b :: r, w => (130 * v ≤ i ∧ i < 130 * v + 130) ∧ M.1 93 i = 1 ∧ (∃ p, (420 * v ≤ p ∧ p + b.1.length + b.2.1.length + b.2.2.length ≤ 420 * v + 420) ∧ M.1 94 i = nI p ∧ M.1 95 i = nI (p + b.1.length) ∧ M.1 96 i = nI (p + b.1.length + b.2.1.length) ∧ M.1 97 i = nI (p + b.1.length + b.2.1.length + b.2.2.length) ∧ CM M p b.1 ∧ CM M (p + b.1.length) b.2.1 ∧ CM M (p + b.1.length + b.2.1.length) b.2.2) ∧ LM0 v M (i + 1) r w
theorem LM0.of : ∀ {B : List (Cd × Cd × Cd)} {w : Cd} {i : Nat}, LM0 v M i B w → (∀ a i, lwR v a i → M'.1 a i = M.1 a i) → LM0 v M' i B w
  | [], w, i, L, e => by
    obtain ⟨h1, h2, p, h3, h4, h5, h6⟩ := L
    have e9 : ∀ a, 93 ≤ a → a ≤ 97 → M'.1 a i = M.1 a i := fun a x y => e a i (Or.inr (Or.inl ⟨⟨x, y⟩, h1⟩))
    exact ⟨h1, (e9 93 (by omega) (by omega)).trans h2, p, h3, (e9 96 (by omega) (by omega)).trans h4, (e9 97 (by omega) (by omega)).trans h5, h6.of (fun q x y => ⟨e 98 q (Or.inr (Or.inr ⟨Or.inl rfl, by omega, by omega⟩)), e 99 q (Or.inr (Or.inr ⟨Or.inr rfl, by omega, by omega⟩))⟩)⟩
  | b :: r, w, i, L, e => by
    obtain ⟨h1, h2, ⟨p, h3, h4, h5, h6, h7, h8, h9, h10⟩, h11⟩ := L
    have e9 : ∀ a, 93 ≤ a → a ≤ 97 → M'.1 a i = M.1 a i := fun a x y => e a i (Or.inr (Or.inl ⟨⟨x, y⟩, h1⟩))
    have e8 : ∀ q, 420 * v ≤ q → q < 420 * v + 420 → M'.1 98 q = M.1 98 q ∧ M'.1 99 q = M.1 99 q := fun q x y => ⟨e 98 q (Or.inr (Or.inr ⟨Or.inl rfl, by omega, by omega⟩)), e 99 q (Or.inr (Or.inr ⟨Or.inr rfl, by omega, by omega⟩))⟩
    exact ⟨h1, (e9 93 (by omega) (by omega)).trans h2, ⟨p, h3, (e9 94 (by omega) (by omega)).trans h4, (e9 95 (by omega) (by omega)).trans h5, (e9 96 (by omega) (by omega)).trans h6, (e9 97 (by omega) (by omega)).trans h7, h8.of (fun q x y => e8 q (by omega) (by omega)), h9.of (fun q x y => e8 q (by omega) (by omega)), h10.of (fun q x y => e8 q (by omega) (by omega))⟩, h11.of e⟩
theorem LM0.fr {B : List (Cd × Cd × Cd)} {w : Cd} {i : Nat} (L : LM0 v M i B w) (f : FrN [102] M M') : LM0 v M' i B w := L.of (fun a i r => by rw [f.1 a (by simp; unfold lwR at r; omega) (by unfold lwR at r; omega)])
theorem CM.fr {n : Nat} {c : Cd} (C : CM M n c) (f : FrN [102] M M') : CM M' n c := C.of (fun q _ _ => ⟨congrFun (f.1 98 (by decide) (by decide)) q, congrFun (f.1 99 (by decide) (by decide)) q⟩)
theorem r_lawrun {kk : Mem → Option (Int32 × Mem)} {j : Nat} (hv : v ≤ 1) (hj : j < 8) : ∀ (B : List (Cd × Cd × Cd)) (w : Cd) (i fu : Nat) (M : Mem), okB B w → LM0 v M i B w → M.1 92 j = nI (i + B.length + 1) → M.1 67 52 = 0 → B.length < fu → i + B.length < 260 → ∃ M', f_X12_lawTells_L39 kk fu (nI j) (nI i) M = some (lwE (M.1 101) B w, M') ∧ FrN [102] M M'
  | [], w, i, fu, M, o, L, h92, h52, hf, hi => by
    obtain ⟨z, rfl⟩ : ∃ z, fu = z + 1 := ⟨fu - 1, by omega⟩
    obtain ⟨h1, h2, p, h3, h4, h5, h6⟩ := L
    rw [List.length_nil] at h92 hi
    obtain ⟨M1, a1, a2, a3⟩ := r_term (n := p) o.2.1 h6 (by omega)
    rw [f_X12_lawTells_L39, ag_n (by omega) (by omega), sb, h92, if_neg (nI_ge (by omega) (by omega)), ag_n (by omega) (by omega), sb, h2, lt_def, if_pos rfl]
    dsimp only
    rw [ag_n (by omega) (by omega), sb, h4, ag_n (by omega) (by omega), sb, h5, a1, sb]
    unfold lwE
    refine ⟨M1, ?_, a2⟩
    dsimp only
    cases h : evV (M.1 101) w with
    | none =>
      rw [h] at a3
      rw [a3]
      rfl
    | some x =>
      rw [h] at a3
      rw [a3, show (if (some x).isSome = true then M.1 67 52 else 1) = 0 from h52, if_pos rfl]
  | b :: r, w, i, fu, M, o, L, h92, h52, hf, hi => by
    obtain ⟨z, rfl⟩ : ∃ z, fu = z + 1 := ⟨fu - 1, by omega⟩
    obtain ⟨h1, h2, ⟨p, h3, h4, h5, h6, h7, h8, h9, h10⟩, h11⟩ := L
    obtain ⟨o1, o2, o3⟩ := o.1 b List.mem_cons_self
    rw [List.length_cons] at h92 hf hi
    obtain ⟨M1, a1, a2, a3⟩ := r_term (n := p) o1.1 h8 (by omega)
    obtain ⟨M2, b1, b2, b3⟩ := r_term (n := p + b.1.length) o2.1 (h9.fr a2) (by omega)
    have F2 := a2.tr b2
    have u1 : M1.1 101 = M.1 101 := a2.1 101 (by decide) (by decide)
    have u2 : M2.1 101 = M.1 101 := F2.1 101 (by decide) (by decide)
    have k95 : M1.1 95 i = nI (p + b.1.length) := (congrFun (a2.1 95 (by decide) (by decide)) i).trans h5
    have k96 : M1.1 96 i = nI (p + b.1.length + b.2.1.length) := (congrFun (a2.1 96 (by decide) (by decide)) i).trans h6
    have l96 : M2.1 96 i = nI (p + b.1.length + b.2.1.length) := (congrFun (F2.1 96 (by decide) (by decide)) i).trans h6
    have l97 : M2.1 97 i = nI (p + b.1.length + b.2.1.length + b.2.2.length) := (congrFun (F2.1 97 (by decide) (by decide)) i).trans h7
    obtain ⟨M3, c1, c2, c3⟩ := r_term (n := p + b.1.length + b.2.1.length) o3.1 (h10.fr F2) (by omega)
    rw [f_X12_lawTells_L39, ag_n (by omega) (by omega), sb, h92, if_neg (nI_ge (by omega) (by omega)), ag_n (by omega) (by omega), sb, h2, lt_def, if_neg (show ¬ (1 : Int32) = 0 by decide), ag_n (by omega) (by omega), sb, h4, ag_n (by omega) (by omega), sb, h5, a1, sb, ag_n (by omega) (by omega), sb, k95, ag_n (by omega) (by omega), sb, k96, b1, sb]
    unfold lwE
    rw [u1] at b3 ⊢
    rw [u2] at c1 c3
    dsimp only
    cases h : evV (M.1 101) b.1 with
    | none =>
      rw [h] at a3
      have : M2.1 67 52 = 1 := by
        rw [b3, a3]
        exact ite_self _
      rw [this, if_neg (show ¬ (1 : Int32) = 0 by decide), if_neg (fun a => by cases a.1)]
      exact ⟨M2, rfl, F2⟩
    | some x =>
      rw [h] at a3
      cases h' : evV (M.1 101) b.2.1 with
      | none =>
        rw [h'] at b3
        have : M2.1 67 52 = 1 := b3
        rw [this, if_neg (show ¬ (1 : Int32) = 0 by decide), if_neg (fun a => by cases a.2)]
        exact ⟨M2, rfl, F2⟩
      | some y =>
        rw [h'] at b3
        have q52 : M2.1 67 52 = 0 := b3.trans (a3.trans h52)
        rw [q52, if_pos rfl, if_pos (show (some x).isSome = true ∧ (some y).isSome = true from ⟨rfl, rfl⟩)]
        show ∃ M', (if x < y then _ else _) = some (if x < y then (evV (M.1 101) b.2.2).getD 0 else lwE (M.1 101) r w, M') ∧ _
        by_cases q : x < y
        · rw [if_pos q, if_pos q, ag_n (by omega) (by omega), sb, l96, ag_n (by omega) (by omega), sb, l97, c1, sb]
          refine ⟨M3, ?_, F2.tr c2⟩
          dsimp only
          cases h'' : evV (M.1 101) b.2.2 with
          | none =>
            rw [h''] at c3
            rw [c3]
            rfl
          | some x' =>
            rw [h''] at c3
            rw [c3, show (if (some x').isSome = true then M2.1 67 52 else 1) = 0 from q52, if_pos rfl]
        · rw [if_neg q, if_neg q, lt_def, nI_1]
          obtain ⟨M4, d1, d2⟩ := r_lawrun (kk := kk) hv hj r w (i + 1) z M2 ⟨fun x hx => o.1 x (List.mem_cons_of_mem _ hx), o.2⟩ (h11.fr F2) ((congrFun (F2.1 92 (by decide) (by decide)) j).trans (h92.trans (by rw [show i + (r.length + 1) + 1 = i + 1 + r.length + 1 by omega]))) q52 (by omega) (by omega)
          rw [u2] at d1
          exact ⟨M4, d1, F2.tr d2⟩
theorem LM0.lt : ∀ {B : List (Cd × Cd × Cd)} {w : Cd} {i : Nat}, LM0 v M i B w → i + B.length < 130 * v + 130
  | [], w, i, L => by
    have := L.1
    rw [List.length_nil]
    omega
  | b :: r, w, i, L => by
    have := LM0.lt L.2.2.2
    rw [List.length_cons]
    omega
theorem lawF_of {B : Nat → List (Cd × Cd × Cd)} {W : Nat → Cd} (o : ∀ k, okB (B k) (W k)) : LawF (fun k u => lwE u (B k) (W k)) := fun k _ _ e => lwE_cg e (o k)
theorem lawC_of {t T : Nat} {B : Nat → List (Cd × Cd × Cd)} {W : Nat → Cd} (ht : isT t) (o : ∀ k, okB (B k) (W k)) (h9 : M.1 t 9 = nI T) (hT : T ≤ 407) (h : ∀ k, k < 4 → ∃ n, M.1 (t + 8) k = nI n ∧ LC0 t M n (B k) (W k) ∧ n + lwZ (B k) (W k) ≤ T) : LawC t (fun k u => lwE u (B k) (W k)) M := by
  intro M' e1 e2 e3 lw hL k hk
  obtain ⟨n, h1, h2, h3⟩ := h k hk
  have hFU : FU = 1000000 := rfl
  unfold f_X2_run
  rw [e2, h1]
  exact c_lawrun (k := fun t52 => some (0, t52)) (T := T) ht hL (B k) (W k) n 0 FU M' (o k) (h2.of (fun q _ _ => congrFun e3 q)) ((congrFun e1 9).trans h9) hT h3 (by omega) (by omega)
def dfC (k : Nat) : Cd := if k = 0 then [(1, 0)] else if k = 1 then [(0, 1)] else [(0, 0)]
theorem df_e {u : Nat → Int32} {k : Nat} : lwE u [] (dfC k) = if k = 0 then u 0 else if k = 1 then 1 else 0 := by
  unfold dfC
  by_cases h : k = 0
  · rw [if_pos h, if_pos h]
    rfl
  · rw [if_neg h, if_neg h]
    by_cases h1 : k = 1
    · rw [if_pos h1, if_pos h1]
      rfl
    · rw [if_neg h1, if_neg h1]
      rfl
theorem lawM_of {B : Nat → List (Cd × Cd × Cd)} {W : Nat → Cd} (hv : v ≤ 1) (h18 : M.1 67 18 = nI v) (o : ∀ k, okB (B k) (W k)) (h : ∀ k, k < 4 → (∃ f, M.1 91 (4 * v + k) = nI f ∧ M.1 92 (4 * v + k) = nI (f + (B k).length + 1) ∧ LM0 v M f (B k) (W k)) ∨ (M.1 91 (4 * v + k) = M.1 92 (4 * v + k) ∧ B k = [] ∧ W k = dfC k)) : LawM (fun k u => lwE u (B k) (W k)) M := by
  refine ⟨v, hv, h18, fun M' a18 e k hk pl hp => ?_⟩
  have hFU : FU = 1000000 := rfl
  have k91 : M'.1 91 (4 * v + k) = M.1 91 (4 * v + k) := e 91 _ (Or.inl ⟨Or.inl rfl, by omega, by omega⟩)
  have k92 : M'.1 92 (4 * v + k) = M.1 92 (4 * v + k) := e 92 _ (Or.inl ⟨Or.inr rfl, by omega, by omega⟩)
  unfold f_X12_lawTells
  rw [a18, show (4 : Int32) * nI v + nI k = nI (4 * v + k) by rw [show (4 : Int32) = nI 4 from rfl, show nI 4 * nI v = nI (4 * v) from (Int32.ofNat_mul 4 v).symm, nI_add], lt_def, ag_n (by omega) (by omega), sb, ag_n (by omega) (by omega), sb, k91, k92]
  rcases h k hk with ⟨f, h1, h2, h3⟩ | ⟨h1, h2, h3⟩
  · have hl := h3.lt
    rw [h1, h2, if_neg (fun z => by have := nI_inj (by omega) (by omega) z; omega), lt_def, ag_n (by omega) (by omega), sb, show (sI M' 67 52 0).1 91 (4 * v + k) = nI f from (congrFun (sI_cell (by decide)) _).trans (k91.trans h1)]
    have f1 : FrN [102] M' (sI M' 67 52 0) := ⟨fun _ _ q => sI_cell q, fun _ q => sI_ix q, rfl⟩
    obtain ⟨M2, r1, r2⟩ := r_lawrun (kk := fun t29 => some (0, t29)) (j := 4 * v + k) hv (by omega) (B k) (W k) f FU (sI M' 67 52 0) (o k) ((h3.of e).fr f1) ((congrFun (sI_cell (by decide)) _).trans (k92.trans h2)) sI_same (by omega) (by omega)
    exact ⟨M2, r1, f1.tr r2⟩
  · rw [if_pos h1]
    refine ⟨M', ?_, FrN.rf⟩
    dsimp only
    rw [h2, h3, df_e, hp]
end RLW

-- 89o.rtake: pure: names, corners and numbers taken by the reference
section RTK
variable {K V P : Nat → Nat} {N : Nat → Int64} {E v n g i : Nat} {M M' : Mem} {nm : List (Int64 × Nat)} {lf : Nat × Nat}
def FK (M M' : Mem) : Prop := (∀ a, a ≠ 67 → a ≠ 76 → M'.1 a = M.1 a) ∧ (∀ i, i ≠ 11 → i ≠ 13 → i ≠ 14 → i ≠ 15 → i ≠ 16 → i ≠ 20 → M'.1 67 i = M.1 67 i) ∧ (∀ a, a ≠ 75 → M'.2.1 a = M.2.1 a) ∧ M'.2.2 = M.2.2
theorem FK.rf : FK M M := ⟨fun _ _ _ => rfl, fun _ _ _ _ _ _ _ => rfl, fun _ _ => rfl, rfl⟩
theorem FK.tr {M1 : Mem} (h : FK M M1) (h' : FK M1 M') : FK M M' := ⟨fun a p q => (h'.1 a p q).trans (h.1 a p q), fun i p q r s u z => (h'.2.1 i p q r s u z).trans (h.2.1 i p q r s u z), fun a p => (h'.2.2.1 a p).trans (h.2.2.1 a p), h'.2.2.2.trans h.2.2.2⟩
/-- token and hard fault alone -/
def FJ (M M' : Mem) : Prop := (∀ a, a ≠ 67 → M'.1 a = M.1 a) ∧ (∀ i, i ≠ 11 → i ≠ 13 → i ≠ 14 → M'.1 67 i = M.1 67 i) ∧ M'.2 = M.2
theorem FJ.rf : FJ M M := ⟨fun _ _ => rfl, fun _ _ _ _ => rfl, rfl⟩
theorem FJ.tr {M1 : Mem} (h : FJ M M1) (h' : FJ M1 M') : FJ M M' := ⟨fun a p => (h'.1 a p).trans (h.1 a p), fun i p q r => (h'.2.1 i p q r).trans (h.2.1 i p q r), h'.2.2.trans h.2.2⟩
theorem FJ.fk (h : FJ M M') : FK M M' := ⟨fun a p _ => h.1 a p, fun i p q r _ _ _ => h.2.1 i p q r, fun a _ => by rw [h.2.2], by rw [h.2.2]⟩
theorem FJ.fd {i : Nat} {x : Int32} (h : i = 11 ∨ i = 13 ∨ i = 14) : FJ M (sI M 67 i x) := ⟨fun a p => sI_cell p, fun j p q r => sI_ix (by omega), rfl⟩
theorem fj_fail {x : Int32} (e : f_X12_fail x M = some M') : FJ M M' := by
  unfold f_X12_fail at e
  by_cases a : M.1 67 13 ≤ 0
  · rw [if_pos a, lt_def] at e
    cases hx : ag (sI M 67 13 x) 71 403 ((sI M 67 13 x).1 67 11) with
    | none => rw [hx] at e; cases e
    | some v =>
      rw [hx, sb, lt_def] at e
      cases e
      exact (FJ.fd (by omega)).tr (FJ.fd (by omega))
  · rw [if_neg a] at e
    cases e
    exact FJ.rf
theorem fj_go (e : f_X12_goesOn M = some M') : FJ M M' := by
  unfold f_X12_goesOn at e
  by_cases a : M.1 67 11 = 400
  · rw [if_pos a] at e
    cases hx : f_X12_fail 2 M with
    | none => rw [hx] at e; cases e
    | some X =>
      rw [hx, sb] at e
      cases e
      exact fj_fail hx
  · rw [if_neg a, lt_def] at e
    cases e
    exact FJ.fd (by omega)
theorem fj_must {x : Int32} (e : f_X12_must x M = some M') : FJ M M' := by
  unfold f_X12_must at e
  cases hk : f_X12_is x M with
  | none => rw [hk] at e; cases e
  | some u =>
    rw [hk, sb] at e
    by_cases a : u = 0
    · rw [if_pos a] at e
      cases hx : f_X12_fail 1 M with
      | none => rw [hx] at e; cases e
      | some X =>
        rw [hx, sb] at e
        cases e
        exact fj_fail hx
    · rw [if_neg a] at e
      cases hx : f_X12_goesOn M with
      | none => rw [hx] at e; cases e
      | some X =>
        rw [hx, sb] at e
        cases e
        exact fj_go hx
theorem tokM.fk (h : tokM K P V N E M) (f : FK M M') : tokM K P V N E M' := by
  unfold tokM at h ⊢
  rw [f.1 70 (by decide) (by decide), f.1 71 (by decide) (by decide), f.1 72 (by decide) (by decide), f.2.2.1 73 (by decide)]
  exact h
def NMm (nm : List (Int64 × Nat)) (M : Mem) : Prop := M.1 67 20 = nI nm.length ∧ nm.length ≤ 18 ∧ ∀ j p, nm[j]? = some p → M.2.1 75 j = p.1 ∧ M.1 76 j = nI p.2 ∧ p.2 ≤ 10
theorem NMm.fj (h : NMm nm M) (f : FJ M M') : NMm nm M' := by
  unfold NMm at h ⊢
  rw [f.2.1 20 (by decide) (by decide) (by decide), f.1 76 (by decide), f.2.2]
  exact h
theorem LFm.fj (h : LFm lf M) (f : FJ M M') : LFm lf M' := by
  unfold LFm at h ⊢
  rw [f.2.1 15 (by decide) (by decide) (by decide), f.2.1 16 (by decide) (by decide) (by decide)]
  exact h
theorem NMm.app {x : Int64} {c : Nat} (h : NMm nm M) (hl : nm.length < 18) (hc : c ≤ 10) : NMm (nm ++ [(x, c)]) (sI (sI (sJ M 75 nm.length x) 76 nm.length (nI c)) 67 20 (nI (nm.length + 1))) := by
  have el : (nm ++ [(x, c)]).length = nm.length + 1 := List.length_append
  refine ⟨by rw [el]; exact sI_same, by rw [el]; omega, fun j p e => ?_⟩
  have hj : j < nm.length + 1 := by
    have := (List.getElem?_eq_some_iff.mp e).1
    rwa [el] at this
  rcases Nat.lt_or_ge j nm.length with q | q
  · rw [List.getElem?_append_left q] at e
    obtain ⟨a, b, d⟩ := h.2.2 j p e
    exact ⟨(sJ_ix (by omega)).trans a, (congrFun (sI_cell (by decide)) j).trans ((sI_ix (by omega)).trans b), d⟩
  · have ej : j = nm.length := by omega
    subst ej
    rw [List.getElem?_append_right (Nat.le_refl _), Nat.sub_self] at e
    cases e
    exact ⟨sJ_same, (congrFun (sI_cell (by decide)) nm.length).trans sI_same, hc⟩
/-- alive at token i -/
def AM (P : Nat → Nat) (E v i g n : Nat) (nm : List (Int64 × Nat)) (lf : Nat × Nat) (M : Mem) : Prop := GS i g n M ∧ M.1 67 19 = nI v ∧ LFm lf M ∧ NMm nm M ∧ (lf.1 ≠ 0 → lf.2 < P i) ∧ i ≤ E ∧ n ≤ 420 * v + i ∧ 420 * v ≤ n ∧ 130 * v ≤ g ∧ 4 * g ≤ 4 * (130 * v) + i
def DM (e p v : Nat) (M : Mem) : Prop := QD e p M ∧ M.1 67 19 = nI v
theorem GS.fk {j : Nat} (S : GS i g n M) (f : FJ M M') (h13 : M'.1 67 13 = 0) (h11 : M'.1 67 11 = nI j) : GS j g n M' := ⟨h13, h11, (f.2.1 12 (by decide) (by decide) (by decide)).trans S.2.2.1, (f.2.1 45 (by decide) (by decide) (by decide)).trans S.2.2.2.1, (f.2.1 39 (by decide) (by decide) (by decide)).trans S.2.2.2.2⟩
/-- alive: a token that must be there -/
theorem r_muA {k : Nat} (w : wfK K P V E) (mP : ∀ a, a < E → P a < P (a + 1)) (T : tokM K P V N E M) (A : AM P E v i g n nm lf M) (hk : k < 43) (k0 : k ≠ 0) (k3 : k ≠ 3) : ∃ M', f_X12_must (nI k) M = some M' ∧ FJ M M' ∧ (∀ j, exK K k i = .ok j → AM P E v j g n nm lf M' ∧ j = i + 1 ∧ P i < P j) ∧ ∀ x, exK K k i = .error x → DM x.1 (P x.2) v M' := by
  obtain ⟨S, h19, L, Q, hp, hi, b1, b2, b3, b4⟩ := A
  obtain ⟨M1, e1, f1, -, a1, a2⟩ := r_mustX (H := 840) (n := n) (k := k) w T hi S.1 S.2.1 hk k0 k3
  have F := fj_must e1
  have k19 := (F.2.1 19 (by decide) (by decide) (by decide)).trans h19
  refine ⟨M1, e1, F, fun j h => ?_, fun x h => ⟨(a2 x h).1, k19⟩⟩
  obtain ⟨q1, q2, q3, q4, -⟩ := a1 j h
  have hlt : P i < P j := by rw [q1]; exact mP i (by omega)
  exact ⟨⟨S.fk F q3 q4, k19, L.fj F, Q.fj F, fun z => Nat.lt_trans (hp z) hlt, q2, by omega, b2, b3, by omega⟩, q1, hlt⟩
/-- a later fault at the token before -/
theorem r_wrA {f j : Nat} (w : wfK K P V E) (T : tokM K P V N E M) (A : AM P E v j g n nm lf M) (hi : i ≤ E) (hl : lf.1 ≠ 0 → lf.2 < P i ∨ (lf.2 = P i ∧ lf.1 ≤ f)) (hij : P i < P j) (hf : 0 < f) (hf2 : f < 10) : ∃ M', f_X12_wrong (nI f) (nI i) M = some M' ∧ FK M M' ∧ AM P E v j g n nm (lfU lf true f (P i)) M' := by
  obtain ⟨S, h19, L, Q, hp, hj, b1, b2, b3, b4⟩ := A
  have hE := w.1
  obtain ⟨M1, e1, L1, c1, c2, c3⟩ := r_wrong (lf := lf) (P := P) hf hf2 (by omega) (T i hi).2.1 (w.2.1 i hi).2 S.1 L hl
  refine ⟨M1, e1, ⟨fun a p _ => c1 a p, fun k _ _ _ p q _ => c2 k p q, fun a _ => by rw [c3], by rw [c3]⟩, ?_, (c2 19 (by decide) (by decide)).trans h19, L1, ?_, fun z => ?_, hj, b1, b2, b3, b4⟩
  · unfold GS at S ⊢
    rw [c2 13 (by decide) (by decide), c2 11 (by decide) (by decide), c2 12 (by decide) (by decide), c2 45 (by decide) (by decide), c2 39 (by decide) (by decide)]
    exact S
  · unfold NMm at Q ⊢
    rw [c2 20 (by decide) (by decide), c1 76 (by decide), c3]
    exact Q
  · by_cases h0 : lf.1 = 0
    · unfold lfU at z ⊢
      rw [if_pos ⟨h0, rfl⟩]
      exact hij
    · rw [lfU_n h0]
      exact hp h0
theorem lfU_2 {c d : Bool} {f p : Nat} (hf : f ≠ 0) : lfU (lfU lf c f p) d f p = lfU lf (c || d) f p := by
  by_cases h0 : lf.1 = 0
  · cases c
    · rw [lfU_f, Bool.false_or]
    · have e : lfU lf true f p = (f, p) := if_pos ⟨h0, rfl⟩
      rw [Bool.true_or, e]
      exact lfU_n hf
  · rw [lfU_n h0, lfU_n h0, lfU_n h0]
theorem r_namL {j : Nat} (w : wfK K P V E) (hi : i ≤ E) (hij : P i < P j) (hl : lf.1 ≠ 0 → lf.2 < P i) (hK : K i = 1) : ∀ (m k fu : Nat) (c : Bool) (M : Mem), k + m = nm.length → m < fu → tokM K P V N E M → AM P E v j g n nm (lfU lf c 3 (P i)) M → ∃ M', f_X12_named_L12 fu (nI i) (nI k) M = some M' ∧ FK M M' ∧ AM P E v j g n nm (lfU lf (c || lkN (nm.drop k) (N i)) 3 (P i)) M'
  | 0, k, fu, c, M, hk, hf, T, A => by
    obtain ⟨z, rfl⟩ : ∃ z, fu = z + 1 := ⟨fu - 1, by omega⟩
    have q18 := A.2.2.2.1.2.1
    refine ⟨M, ?_, FK.rf, ?_⟩
    · rw [f_X12_named_L12, A.2.2.2.1.1, if_pos (nI_le (by omega) (by omega))]
    · rw [List.drop_eq_nil_of_le (by omega), show lkN [] (N i) = false from rfl, Bool.or_false]
      exact A
  | m + 1, k, fu, c, M, hk, hf, T, A => by
    have hE := w.1
    obtain ⟨z, rfl⟩ : ∃ z, fu = z + 1 := ⟨fu - 1, by omega⟩
    have hkl : k < nm.length := by omega
    have q18 := A.2.2.2.1.2.1
    have eg : nm[k]? = some nm[k] := List.getElem?_eq_getElem hkl
    obtain ⟨g1, g2, g3⟩ := A.2.2.2.1.2.2 k _ eg
    rw [f_X12_named_L12, A.2.2.2.1.1, if_neg (nI_ge (by omega) (by omega)), if_pos A.1.1, aj_n (by omega) (by omega), sb, aj_n (by omega) (by omega), sb, g1, (T i hi).2.2.2 hK, List.drop_eq_getElem_cons hkl, lkN_cons]
    by_cases e : nm[k].1 = N i
    · obtain ⟨M1, e1, f1, A1⟩ := r_wrA (f := 3) (i := i) w T A hi (fun z => by
        by_cases h0 : lf.1 = 0
        · cases c
          · rw [lfU_f] at z; exact absurd h0 z
          · rw [show lfU lf true 3 (P i) = (3, P i) from if_pos ⟨h0, rfl⟩]
            exact Or.inr ⟨rfl, Nat.le_refl _⟩
        · rw [lfU_n h0]
          exact Or.inl (hl h0)) hij (by omega) (by omega)
      rw [lfU_2 (by omega), Bool.or_true] at A1
      obtain ⟨M2, e2, f2, A2⟩ := r_namL w hi hij hl hK m (k + 1) z true M1 (by omega) (by omega) (T.fk f1) A1
      refine ⟨M2, ?_, f1.tr f2, ?_⟩
      · rw [if_pos ((lg_cmp_eq _ _).mpr e), show f_X12_wrong 3 (nI i) M = some M1 from e1, sb, nI_1, lt_def, e2]
      · rw [decide_eq_true e, Bool.true_or, Bool.or_true]
        exact A2
    · obtain ⟨M2, e2, f2, A2⟩ := r_namL w hi hij hl hK m (k + 1) z c M (by omega) (by omega) T A
      refine ⟨M2, ?_, f2, ?_⟩
      · rw [if_neg (fun q => e ((lg_cmp_eq _ _).mp q)), nI_1, lt_def, e2]
      · rw [decide_eq_false e, Bool.false_or]
        exact A2
/-- a new name -/
theorem r_namA (w : wfK K P V E) (mP : ∀ a, a < E → P a < P (a + 1)) (T : tokM K P V N E M) (A : AM P E v i g n nm lf M) : ∃ M', f_X12_named M = some (nI i, M') ∧ FK M M' ∧ (∀ j, exK K 1 i = .ok j → AM P E v j g n nm (lfU lf (lkN nm (N i)) 3 (P i)) M') ∧ ∀ x, exK K 1 i = .error x → DM x.1 (P x.2) v M' := by
  have hFU : FU = 1000000 := rfl
  obtain ⟨M1, e1, F1, a1, a2⟩ := r_muA (k := 1) w mP T A (by omega) (by omega) (by omega)
  have e1' : f_X12_must 1 M = some M1 := e1
  have q18 := A.2.2.2.1.2.1
  cases hk : exK K 1 i with
  | error x =>
    have D := a2 x hk
    refine ⟨M1, ?_, F1.fk, (fun j h => by cases h), (fun y h => by cases h; exact D)⟩
    unfold f_X12_named
    rw [A.1.2.1, lt_def, e1', sb, show FU = 999999 + 1 from rfl, f_X12_named_L12, if_neg D.1.n0, ite_self, sb]
  | ok j =>
    obtain ⟨A1, hj, hlt⟩ := a1 j hk
    obtain ⟨M2, e2, f2, A2⟩ := r_namL (lf := lf) (N := N) (nm := nm) w A.2.2.2.2.2.1 hlt A.2.2.2.2.1 (exK_ok hk).1 nm.length 0 FU false M1 (by omega) (by omega) (T.fk F1.fk) (by rw [lfU_f]; exact A1)
    refine ⟨M2, ?_, F1.fk.tr f2, (fun j' h => by cases h; rw [Bool.false_or, List.drop_zero] at A2; exact A2), (fun y h => by cases h)⟩
    unfold f_X12_named
    rw [A.1.2.1, lt_def, e1', sb, show f_X12_named_L12 FU (nI i) 0 M1 = some M2 from e2, sb]
theorem r_namD {e p : Nat} (D : DM e p v M) : ∃ x, f_X12_named M = some (x, M) := by
  refine ⟨M.1 67 11, ?_⟩
  unfold f_X12_named
  rw [lt_def, r_mustD D.1, sb, show FU = 999999 + 1 from rfl, f_X12_named_L12, if_neg D.1.n0, ite_self, sb]
theorem r_knL {kk : Unit → Option (Int32 × Mem)} {x : Int64} (h20 : M.1 67 20 = nI nm.length) (Q : NMm nm M) (hi : i < 403) (hx : M.2.1 73 i = x) : ∀ (m k fu : Nat), k + m = nm.length → m < fu → f_X12_known_L21 kk fu (nI i) (nI k) M = (match lkM (nm.drop k) x with
    | some c => some (nI c, M)
    | none => kk ())
  | 0, k, fu, hk, hf => by
    obtain ⟨z, rfl⟩ : ∃ z, fu = z + 1 := ⟨fu - 1, by omega⟩
    have q18 := Q.2.1
    rw [f_X12_known_L21, h20, if_pos (nI_le (by omega) (by omega)), List.drop_eq_nil_of_le (by omega)]
    rfl
  | m + 1, k, fu, hk, hf => by
    obtain ⟨z, rfl⟩ : ∃ z, fu = z + 1 := ⟨fu - 1, by omega⟩
    have q18 := Q.2.1
    have hkl : k < nm.length := by omega
    have eg : nm[k]? = some nm[k] := List.getElem?_eq_getElem hkl
    obtain ⟨g1, g2, g3⟩ := Q.2.2 k _ eg
    have ih := r_knL (kk := kk) h20 Q hi hx m (k + 1) z (by omega) (by omega)
    rw [f_X12_known_L21, h20, if_neg (nI_ge (by omega) (by omega)), aj_n (by omega) (by omega), sb, aj_n hi (by omega), sb, g1, hx, List.drop_eq_getElem_cons hkl, lkM_cons, ag_n (by omega) (by omega), sb, g2, li 10, nI_1, lt_def, sb, ih]
    by_cases e : nm[k].1 = x
    · rw [if_pos ((lg_cmp_eq _ _).mpr e)]
      by_cases c : nm[k].2 < 10
      · rw [if_neg (nI_ge c (by omega)), if_pos ⟨e, c⟩]
      · rw [if_pos (nI_le (by omega) (by omega)), if_neg (fun q => c q.2)]
    · rw [if_neg (fun q => e ((lg_cmp_eq _ _).mp q)), if_neg (fun q => e q.1)]
/-- a corner named -/
theorem r_knA (w : wfK K P V E) (mP : ∀ a, a < E → P a < P (a + 1)) (T : tokM K P V N E M) (A : AM P E v i g n nm lf M) : ∃ y M', f_X12_known M = some (y, M') ∧ FK M M' ∧ (∀ j, exK K 1 i = .ok j → AM P E v j g n nm (cnS P N nm i lf) M' ∧ y = cvO (lkM nm (N i))) ∧ ∀ x, exK K 1 i = .error x → DM x.1 (P x.2) v M' := by
  have hFU : FU = 1000000 := rfl
  have hE := w.1
  obtain ⟨M1, e1, F1, a1, a2⟩ := r_muA (k := 1) w mP T A (by omega) (by omega) (by omega)
  have e1' : f_X12_must 1 M = some M1 := e1
  have q18 := A.2.2.2.1.2.1
  have hiE := A.2.2.2.2.2.1
  cases hk : exK K 1 i with
  | error x =>
    have D := a2 x hk
    refine ⟨-1, M1, ?_, F1.fk, (fun j h => by cases h), (fun y h => by cases h; exact D)⟩
    unfold f_X12_known
    rw [A.1.2.1, lt_def, e1', sb, if_neg D.1.nl]
  | ok j =>
    obtain ⟨A1, hj, hlt⟩ := a1 j hk
    have T1 := T.fk F1.fk
    have run := fun kk => r_knL (kk := kk) (x := N i) A1.2.2.2.1.1 A1.2.2.2.1 (show i < 403 by omega) ((T1 i hiE).2.2.2 (exK_ok hk).1) nm.length 0 FU (by omega) (by omega)
    have un : f_X12_known M = f_X12_known_L21 (fun t14 => (f_X12_wrong (4 : Int32) (nI i) M1).bind fun M16 => some ((-1 : Int32), M16)) FU (nI i) (nI 0) M1 := by
      unfold f_X12_known
      rw [A.1.2.1, lt_def, e1', sb, if_pos (show M1.1 67 13 ≤ 0 by rw [A1.1.1]; decide)]
      rfl
    rw [un, run]
    rw [List.drop_zero]
    cases hl : lkM nm (N i) with
    | some c =>
      refine ⟨nI c, M1, rfl, F1.fk, (fun j' h => ?_), (fun y h => by cases h)⟩
      cases h
      unfold cnS
      rw [hl, show (some c : Option Nat).isNone = false from rfl, lfU_f]
      exact ⟨A1, rfl⟩
    | none =>
      obtain ⟨M2, e2, f2, A2⟩ := r_wrA (f := 4) (i := i) w T1 A1 hiE (fun z => Or.inl (A.2.2.2.2.1 z)) hlt (by omega) (by omega)
      refine ⟨-1, M2, ?_, F1.fk.tr f2, (fun j' h => ?_), (fun y h => by cases h)⟩
      · show ((f_X12_wrong (4 : Int32) (nI i) M1).bind fun M16 => some ((-1 : Int32), M16)) = _
        rw [show f_X12_wrong 4 (nI i) M1 = some M2 from e2, sb]
      · cases h
        unfold cnS
        rw [hl]
        exact ⟨A2, rfl⟩
theorem r_knD {e p : Nat} (D : DM e p v M) : f_X12_known M = some (-1, M) := by
  unfold f_X12_known
  rw [lt_def, r_mustD D.1, sb, if_neg D.1.nl]
/-- a number from a to b -/
theorem r_boA {a b : Nat} (w : wfK K P V E) (mP : ∀ a, a < E → P a < P (a + 1)) (T : tokM K P V N E M) (A : AM P E v i g n nm lf M) (ha : a ≤ 9999) (hb : b ≤ 9999) : ∃ y M', f_X12_bounded (nI a) (nI b) M = some (y, M') ∧ FK M M' ∧ (∀ j, exK K 2 i = .ok j → AM P E v j g n nm (inS V P a b i lf) M' ∧ y = nI (V i)) ∧ ∀ x, exK K 2 i = .error x → DM x.1 (P x.2) v M' := by
  have hE := w.1
  obtain ⟨S, h19, L, Q, hp, hi, b1, b2, b3, b4⟩ := A
  have is2 : f_X12_is 2 M = some (if K i = 2 then 1 else 0) := r_is0 (k := 2) w T hi S.1 S.2.1 (by omega)
  have un : ∀ {A}, (if (if K i = 2 then (1 : Int32) else 0) = 0 then (f_X12_fail (1 : Int32) M).bind fun M8 => some (nI a, M8) else (ag M 72 403 (nI i)).bind fun v9 => (if v9 < nI a then (f_X12_wrong (5 : Int32) (nI i) M).bind fun M13 => some M13 else if v9 ≤ nI b then some M else (f_X12_wrong (5 : Int32) (nI i) M).bind fun M16 => some M16).bind fun t10 => (f_X12_goesOn t10).bind fun M18 => some (v9, M18)) = A → f_X12_bounded (nI a) (nI b) M = A := fun {A} h => by
    unfold f_X12_bounded
    rw [if_neg (show ¬ 0 < M.1 67 13 by rw [S.1]; decide), is2, sb, S.2.1, h]
  by_cases k2 : K i = 2
  · rw [if_pos k2, if_neg (show ¬ (1 : Int32) = 0 by decide), ag_n (show i < 403 by omega) (by omega), sb, (T i hi).2.2.1 k2] at un
    have hV := w.2.2.2.2 i hi k2
    have fin : ∀ {M1 : Mem} {c : Bool}, (if nI (V i) < nI a then (f_X12_wrong (5 : Int32) (nI i) M).bind fun M13 => some M13 else if nI (V i) ≤ nI b then some M else (f_X12_wrong (5 : Int32) (nI i) M).bind fun M16 => some M16) = some M1 → FK M M1 → LFm (lfU lf c 5 (P i)) M1 → (∀ k, k ≠ 15 → k ≠ 16 → M1.1 67 k = M.1 67 k) → (∀ a, a ≠ 67 → M1.1 a = M.1 a) → M1.2 = M.2 → c = (decide (V i < a) || decide (b < V i)) → ∃ y M', f_X12_bounded (nI a) (nI b) M = some (y, M') ∧ FK M M' ∧ (∀ j, exK K 2 i = .ok j → AM P E v j g n nm (inS V P a b i lf) M' ∧ y = nI (V i)) ∧ ∀ x, exK K 2 i = .error x → DM x.1 (P x.2) v M' := fun {M1 c} e1 f1 L1 c1 c2 c3 hc => by
      have T1 := T.fk f1
      obtain ⟨M2, e2, -, p1, p2, -⟩ := r_go0 (H := 840) (n := n) w T1 hi ((c1 13 (by decide) (by decide)).trans S.1) ((c1 11 (by decide) (by decide)).trans S.2.1)
      have F2 := fj_go e2
      have S1 : GS i g n M1 := by
        unfold GS at S ⊢
        rw [c1 13 (by decide) (by decide), c1 11 (by decide) (by decide), c1 12 (by decide) (by decide), c1 45 (by decide) (by decide), c1 39 (by decide) (by decide)]
        exact S
      have Q1 : NMm nm M1 := by
        unfold NMm at Q ⊢
        rw [c1 20 (by decide) (by decide), c2 76 (by decide), c3]
        exact Q
      have k19 : M2.1 67 19 = nI v := (F2.2.1 19 (by decide) (by decide) (by decide)).trans ((c1 19 (by decide) (by decide)).trans h19)
      refine ⟨nI (V i), M2, un (by rw [e1, sb, e2, sb]), f1.tr F2.fk, fun j h => ⟨?_, rfl⟩, fun x h => ?_⟩
      · obtain ⟨-, h4, rfl⟩ := exK_ok h
        have hiE := w.nx hi (by omega) (by omega) h4
        have hlt := mP i (by omega)
        obtain ⟨u1, u2, -⟩ := p1 h4
        unfold inS
        rw [← hc]
        refine ⟨S1.fk F2 u1 u2, k19, L1.fj F2, Q1.fj F2, fun z => ?_, hiE, by omega, b2, b3, by omega⟩
        by_cases h0 : lf.1 = 0
        · cases c
          · rw [lfU_f] at z; exact absurd h0 z
          · rw [show lfU lf true 5 (P i) = (5, P i) from if_pos ⟨h0, rfl⟩]
            exact hlt
        · rw [lfU_n h0]
          exact Nat.lt_trans (hp h0) hlt
      · unfold exK at h
        rw [if_pos k2] at h
        by_cases h4 : i < 400
        · rw [if_pos h4] at h; cases h
        · rw [if_neg h4] at h
          cases h
          exact ⟨p2 h4, k19⟩
    obtain ⟨M1, e1, L1, c1, c2, c3⟩ := r_wrong (f := 5) (lf := lf) (P := P) (by omega) (by omega) (show i < 403 by omega) (T i hi).2.1 (w.2.1 i hi).2 S.1 L (fun z => Or.inl (hp z))
    have e1' : f_X12_wrong 5 (nI i) M = some M1 := e1
    have f1 : FK M M1 := ⟨fun a p _ => c1 a p, fun k _ _ _ p q _ => c2 k p q, fun a _ => by rw [c3], by rw [c3]⟩
    rcases Nat.lt_or_ge (V i) a with q1 | q1
    · exact fin (M1 := M1) (c := true) (by rw [if_pos (nI_lt q1 (by omega)), e1', sb]) f1 L1 c2 c1 c3 (by rw [decide_eq_true q1]; rfl)
    · rcases Nat.lt_or_ge b (V i) with q2 | q2
      · exact fin (M1 := M1) (c := true) (by rw [if_neg (nI_nlt q1 (by omega)), if_neg (nI_ge q2 (by omega)), e1', sb]) f1 L1 c2 c1 c3 (by rw [decide_eq_true q2, Bool.or_true])
      · exact fin (M1 := M) (c := false) (by rw [if_neg (nI_nlt q1 (by omega)), if_pos (nI_le q2 (by omega))]) FK.rf (by rw [lfU_f]; exact L) (fun _ _ _ => rfl) (fun _ _ => rfl) rfl (by rw [decide_eq_false (by omega), decide_eq_false (by omega)]; rfl)
  · rw [if_neg k2, if_pos rfl] at un
    obtain ⟨M1, e1, -, D1, -⟩ := r_fail0 (H := 840) (n := n) (x := 1) w T hi S.1 S.2.1 (by omega) (by omega)
    have F1 := fj_fail e1
    have e1' : f_X12_fail 1 M = some M1 := e1
    have x1 : exK K 2 i = .error (1, i) := by unfold exK; rw [if_neg k2]
    exact ⟨nI a, M1, un (by rw [e1', sb]), F1.fk, (fun j h => by rw [x1] at h; cases h), (fun x h => by rw [x1] at h; cases h; exact ⟨D1, (F1.2.1 19 (by decide) (by decide) (by decide)).trans h19⟩)⟩
theorem r_boD {e p : Nat} {x y : Int32} (D : DM e p v M) : f_X12_bounded x y M = some (x, M) := by
  unfold f_X12_bounded
  rw [if_pos D.1.gt, r_failD D.1, sb]
/-- the first word of a tell that has its limit -/
theorem r_room {c m k : Nat} (w : wfK K P V E) (mP : ∀ a, a < E → P a < P (a + 1)) (T : tokM K P V N E M) (A : AM P E v i g n nm lf M) (hk : K i = k) (h0 : k ≠ 0) (h3 : k ≠ 3) (hc : c ≤ m) (hm : m ≤ 100) : ∃ M', f_X12_roomFor (nI c) (nI m) M = some M' ∧ FK M M' ∧ (∀ j, (if m ≤ c then .error (2, i) else exK K k i) = .ok j → AM P E v j g n nm lf M') ∧ ∀ x : Nat × Nat, (if m ≤ c then .error (2, i) else exK K k i) = .error x → DM x.1 (P x.2) v M' := by
  obtain ⟨S, h19, L, Q, hp, hi, b1, b2, b3, b4⟩ := A
  unfold f_X12_roomFor
  by_cases h : m ≤ c
  · obtain ⟨M1, e1, -, D1, -⟩ := r_fail0 (H := 840) (n := n) (x := 2) w T hi S.1 S.2.1 (by omega) (by omega)
    have F1 := fj_fail e1
    refine ⟨M1, ?_, F1.fk, ?_, ?_⟩
    · rw [if_pos (show nI c = nI m by rw [show c = m by omega]), show f_X12_fail 2 M = some M1 from e1, sb, sb, if_neg D1.n0]
    · intro j z; rw [if_pos h] at z; cases z
    · intro x z
      rw [if_pos h] at z
      cases z
      exact ⟨D1, (F1.2.1 19 (by decide) (by decide) (by decide)).trans h19⟩
  · obtain ⟨M1, e1, -, p1, p2, -⟩ := r_go0 (H := 840) (n := n) w T hi S.1 S.2.1
    have F1 := fj_go e1
    have k19 := (F1.2.1 19 (by decide) (by decide) (by decide)).trans h19
    refine ⟨M1, ?_, F1.fk, ?_, ?_⟩
    · rw [if_neg (fun z => by have := nI_inj (by omega) (by omega) z; omega), sb, if_pos S.1, e1, sb]
    · intro j z
      rw [if_neg h] at z
      obtain ⟨z1, z2, rfl⟩ := exK_ok z
      obtain ⟨u1, u2, -⟩ := p1 z2
      have hiE := w.nx hi (by omega) (by omega) z2
      exact ⟨S.fk F1 u1 u2, k19, L.fj F1, Q.fj F1, fun z => Nat.lt_trans (hp z) (mP i (by omega)), hiE, by omega, b2, b3, by omega⟩
    · intro x z
      rw [if_neg h] at z
      unfold exK at z
      rw [if_pos hk] at z
      by_cases h4 : i < 400
      · rw [if_pos h4] at z; cases z
      · rw [if_neg h4] at z
        cases z
        exact ⟨p2 h4, k19⟩
theorem r_goA {k : Nat} (w : wfK K P V E) (mP : ∀ a, a < E → P a < P (a + 1)) (T : tokM K P V N E M) (A : AM P E v i g n nm lf M) (hk : K i = k) (h0 : k ≠ 0) (h3 : k ≠ 3) : ∃ M', f_X12_goesOn M = some M' ∧ FK M M' ∧ (∀ j, exK K k i = .ok j → AM P E v j g n nm lf M') ∧ ∀ x : Nat × Nat, exK K k i = .error x → DM x.1 (P x.2) v M' := by
  obtain ⟨M1, e1, f1, a1, a2⟩ := r_room (c := 0) (m := 1) w mP T A hk h0 h3 (by omega) (by omega)
  rw [if_neg (show ¬ 1 ≤ 0 by omega)] at a1 a2
  refine ⟨M1, ?_, f1, a1, a2⟩
  unfold f_X12_roomFor at e1
  rw [if_neg (show ¬ nI 0 = nI 1 by decide), sb, if_pos A.1.1] at e1
  cases h : f_X12_goesOn M with
  | none => rw [h] at e1; cases e1
  | some X => rw [h, sb] at e1; exact e1
/-- the end of a tell that names -/
theorem r_endA {i1 c : Nat} (w : wfK K P V E) (mP : ∀ a, a < E → P a < P (a + 1)) (T : tokM K P V N E M) (A : AM P E v i g n nm lf M) (hl : nm.length < 18) (hc : c ≤ 10) (h1 : i1 ≤ E) (hk : K i1 = 1) : ∃ M', f_X12_endsName (nI i1) (nI c) M = some M' ∧ FK M M' ∧ (∀ j, exK K 4 i = .ok j → AM P E v j g n (nm ++ [(N i1, c)]) lf M' ∧ j = i + 1) ∧ ∀ x, exK K 4 i = .error x → DM x.1 (P x.2) v M' := by
  have hE := w.1
  obtain ⟨M1, e1, F1, a1, a2⟩ := r_muA (k := 4) w mP T A (by omega) (by omega) (by omega)
  have e1' : f_X12_must 4 M = some M1 := e1
  cases hx : exK K 4 i with
  | error x =>
    have D := a2 x hx
    refine ⟨M1, ?_, F1.fk, (fun j h => by cases h), (fun y h => by cases h; exact D)⟩
    unfold f_X12_endsName
    rw [e1', sb, if_neg D.1.nl]
  | ok j =>
    obtain ⟨A1, hj, -⟩ := a1 j hx
    obtain ⟨S, h19, L, Q, hp, hi, b⟩ := A1
    have T1 := T.fk F1.fk
    have c4 : (sJ M1 75 nm.length (N i1)).1 67 20 = nI nm.length := Q.1
    have c5 : (sI (sJ M1 75 nm.length (N i1)) 76 nm.length (nI c)).1 67 20 = nI nm.length := (congrFun (sI_cell (by decide)) 20).trans c4
    have cf : ∀ k, k ≠ 20 → (sI (sI (sJ M1 75 nm.length (N i1)) 76 nm.length (nI c)) 67 20 (nI (nm.length + 1))).1 67 k = M1.1 67 k := fun k hk => (sI_ix hk).trans (congrFun (sI_cell (by decide)) k)
    refine ⟨sI (sI (sJ M1 75 nm.length (N i1)) 76 nm.length (nI c)) 67 20 (nI (nm.length + 1)), ?_, F1.fk.tr ⟨fun a p q => (sI_cell p).trans (sI_cell q), fun k _ _ _ _ _ p => cf k p, fun a p => sJ_cell p, rfl⟩, (fun j' h => ?_), (fun y h => by cases h)⟩
    · unfold f_X12_endsName
      rw [e1', sb, if_pos (show M1.1 67 13 ≤ 0 by rw [S.1]; decide), aj_n (by omega) (by omega), sb, (T1 i1 h1).2.2.2 hk, Q.1, pj_n hl (by omega), sb, c4, pg_n hl (by omega), sb, c5, nI_1, lt_def]
    · cases h
      refine ⟨⟨?_, (cf 19 (by decide)).trans h19, ?_, Q.app hl hc, hp, hi, b⟩, hj⟩
      · unfold GS at S ⊢
        rw [cf 13 (by decide), cf 11 (by decide), cf 12 (by decide), cf 45 (by decide), cf 39 (by decide)]
        exact S
      · unfold LFm at L ⊢
        rw [cf 15 (by decide), cf 16 (by decide)]
        exact L
theorem r_endD {e p : Nat} {x y : Int32} (D : DM e p v M) : f_X12_endsName x y M = some M := by
  unfold f_X12_endsName
  rw [r_mustD D.1, sb, if_neg D.1.nl]
end RTK

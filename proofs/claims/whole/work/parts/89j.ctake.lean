-- 89j.ctake: pure: names, corners and numbers taken by the class
section NML
theorem lkM_cons (p : Int64 × Nat) (nm : List (Int64 × Nat)) (x : Int64) : lkM (p :: nm) x = if p.1 = x ∧ p.2 < 10 then some p.2 else lkM nm x := by
  unfold lkM
  rw [List.find?_cons]
  by_cases a : p.1 = x
  · by_cases b : p.2 < 10
    · rw [if_pos ⟨a, b⟩, show (p.1 == x && decide (p.2 < 10)) = true by rw [decide_eq_true b, beq_iff_eq.mpr a]; rfl]
      rfl
    · rw [if_neg (fun z => b z.2), show (p.1 == x && decide (p.2 < 10)) = false by rw [decide_eq_false b, Bool.and_false]]
  · rw [if_neg (fun z => a z.1), show (p.1 == x && decide (p.2 < 10)) = false by rw [beq_eq_false_iff_ne.mpr a, Bool.false_and]]
theorem lkN_cons (p : Int64 × Nat) (nm : List (Int64 × Nat)) (x : Int64) : lkN (p :: nm) x = (decide (p.1 = x) || lkN nm x) := by
  unfold lkN
  rw [List.any_cons]
  congr 1
def ndN (nm : List (Int64 × Nat)) : Prop := nm.Pairwise (fun p q => p.1 ≠ q.1)
theorem lkM_no {x : Int64} : ∀ {nm : List (Int64 × Nat)}, (∀ q ∈ nm, q.1 ≠ x) → lkM nm x = none
  | [], _ => rfl
  | p :: nm, h => by
    rw [lkM_cons, if_neg (fun z => h p List.mem_cons_self z.1)]
    exact lkM_no (fun q hq => h q (List.mem_cons_of_mem _ hq))
theorem lkN_no {x : Int64} : ∀ {nm : List (Int64 × Nat)}, lkN nm x = false → ∀ q ∈ nm, q.1 ≠ x
  | p :: nm, h, q, hq => by
    rw [lkN_cons, Bool.or_eq_false_iff] at h
    rcases List.mem_cons.mp hq with e | e
    · rw [e]; exact of_decide_eq_false h.1
    · exact lkN_no h.2 q e
theorem ndN.app {nm : List (Int64 × Nat)} {x : Int64} {c : Nat} (h : ndN nm) (hx : lkN nm x = false) : ndN (nm ++ [(x, c)]) := by
  unfold ndN at h ⊢
  rw [List.pairwise_append]
  refine ⟨h, List.pairwise_singleton _ _, fun p hp q hq => ?_⟩
  rw [List.mem_singleton.mp hq]
  exact lkN_no hx p hp
theorem lkM_in {x : Int64} {c : Nat} : ∀ {nm : List (Int64 × Nat)}, lkM nm x = some c → c < 10 ∧ (x, c) ∈ nm
  | p :: nm, h => by
    rw [lkM_cons] at h
    by_cases a : p.1 = x ∧ p.2 < 10
    · rw [if_pos a] at h
      cases h
      exact ⟨a.2, by rw [← a.1]; exact List.mem_cons_self⟩
    · rw [if_neg a] at h
      have := lkM_in h
      exact ⟨this.1, List.mem_cons_of_mem _ this.2⟩
/-- the first of a name in the list -/
theorem fs_lk {f : Nat → Int64} {x : Int64} : ∀ {nm : List (Int64 × Nat)} {k : Nat}, (∀ j p, nm[j]? = some p → f (k + j) = p.1) → (fsN f x k nm.length = none → lkN nm x = false ∧ lkM nm x = none) ∧ ∀ j, fsN f x k nm.length = some j → ∃ p m, j = k + m ∧ nm[m]? = some p ∧ lkN nm x = true ∧ (ndN nm → lkM nm x = if p.2 < 10 then some p.2 else none)
  | [], k, h => ⟨fun _ => ⟨rfl, rfl⟩, (fun j z => by cases z)⟩
  | p :: nm, k, h => by
    have h0 : f k = p.1 := h 0 p rfl
    have ih := fs_lk (f := f) (x := x) (nm := nm) (k := k + 1) (fun j q e => by
      have := h (j + 1) q (by rw [List.getElem?_cons_succ]; exact e)
      rwa [show k + (j + 1) = k + 1 + j by omega] at this)
    rw [List.length_cons, fsN]
    by_cases e : f k = x
    · rw [if_pos e]
      refine ⟨(fun z => by cases z), fun j z => ?_⟩
      cases z
      refine ⟨p, 0, rfl, rfl, ?_, fun nd => ?_⟩
      · rw [lkN_cons, decide_eq_true (h0.symm.trans e)]
        rfl
      · rw [lkM_cons]
        by_cases b : p.2 < 10
        · rw [if_pos ⟨h0.symm.trans e, b⟩, if_pos b]
        · rw [if_neg (fun z => b z.2), if_neg b]
          refine lkM_no (fun q hq => ?_)
          have := (List.pairwise_cons.mp nd).1 q hq
          rw [← h0.symm.trans e]
          exact Ne.symm this
    · rw [if_neg e]
      have e' : ¬ p.1 = x := fun z => e (h0.trans z)
      refine ⟨fun z => ?_, fun j z => ?_⟩
      · obtain ⟨a, b⟩ := ih.1 z
        exact ⟨by rw [lkN_cons, decide_eq_false e', a]; rfl, by rw [lkM_cons, if_neg (fun z => e' z.1), b]⟩
      · obtain ⟨q, m, a1, a2, a3, a4⟩ := ih.2 j z
        refine ⟨q, m + 1, by omega, by rw [List.getElem?_cons_succ]; exact a2, by rw [lkN_cons, a3, Bool.or_true], fun nd => ?_⟩
        rw [lkM_cons, if_neg (fun z => e' z.1)]
        exact a4 (List.pairwise_cons.mp nd).2
end NML
section CTK
variable {K V P : Nat → Nat} {N : Nat → Int64} {E t n : Nat} {M M' : Mem} {nm : List (Int64 × Nat)} {lf : Nat × Nat}
def FN (M M' : Mem) : Prop := (∀ a, a ≠ 23 → a ≠ 30 → M'.1 a = M.1 a) ∧ (∀ a, a ≠ 29 → M'.2.1 a = M.2.1 a) ∧ M'.2.2 = M.2.2
theorem FN.rf : FN M M := ⟨fun _ _ _ => rfl, fun _ _ => rfl, rfl⟩
theorem FN.tr {M1 : Mem} (h : FN M M1) (h' : FN M1 M') : FN M M' := ⟨fun a p q => (h'.1 a p q).trans (h.1 a p q), fun a p => (h'.2.1 a p).trans (h.2.1 a p), h'.2.2.trans h.2.2⟩
theorem tokC.fn (h : tokC K P V N E M) (f : FN M M') : tokC K P V N E M' := by
  unfold tokC at h ⊢
  rw [f.1 25 (by decide) (by decide), f.1 26 (by decide) (by decide), f.2.1 27 (by decide)]
  exact h
/-- the reader's own words alone, the name's cells not -/
def FT (M M' : Mem) : Prop := (∀ a, a ≠ 23 → M'.1 a = M.1 a) ∧ (∀ i, i ≠ 0 → i ≠ 6 → i ≠ 7 → i ≠ 8 → i ≠ 9 → M'.1 23 i = M.1 23 i) ∧ M'.2 = M.2
theorem FT.rf : FT M M := ⟨fun _ _ => rfl, fun _ _ _ _ _ _ => rfl, rfl⟩
theorem FT.tr {M1 : Mem} (h : FT M M1) (h' : FT M1 M') : FT M M' := ⟨fun a p => (h'.1 a p).trans (h.1 a p), fun i p q r s u => (h'.2.1 i p q r s u).trans (h.2.1 i p q r s u), h'.2.2.trans h.2.2⟩
theorem FT.fn (h : FT M M') : FN M M' := ⟨fun a p _ => h.1 a p, fun a _ => by rw [h.2.2], by rw [h.2.2]⟩
theorem FT.set {i : Nat} {x : Int32} (h : i = 0 ∨ i = 6 ∨ i = 7 ∨ i = 8 ∨ i = 9) : FT M (sI M 23 i x) := ⟨fun a p => sI_cell p, fun j p q r s u => sI_ix (by omega), rfl⟩
theorem ft_pass (e : f_X6_pass M = some M') : FT M M' := by
  unfold f_X6_pass at e
  by_cases a : M.1 23 7 = 0
  · rw [if_pos a] at e
    by_cases b : (400 : Int32) ≤ M.1 23 6
    · rw [if_pos b, lt_def] at e
      cases hx : ag (sI M 23 7 2) 26 401 ((sI M 23 7 2).1 23 6) with
      | none => rw [hx] at e; cases e
      | some v =>
        rw [hx, sb, lt_def] at e
        cases e
        exact (FT.set (by omega)).tr (FT.set (by omega))
    · rw [if_neg b, lt_def] at e
      cases e
      exact FT.set (by omega)
  · rw [if_neg a] at e
    cases e
    exact FT.rf
theorem ft_fail {x : Int32} (e : f_X6_fail x M = some M') : FT M M' := by
  unfold f_X6_fail at e
  by_cases a : M.1 23 7 = 0
  · rw [if_pos a, lt_def] at e
    cases hx : ag (sI M 23 7 x) 26 401 ((sI M 23 7 x).1 23 6) with
    | none => rw [hx] at e; cases e
    | some v =>
      rw [hx, sb, lt_def] at e
      cases e
      exact (FT.set (by omega)).tr (FT.set (by omega))
  · rw [if_neg a] at e
    cases e
    exact FT.rf
theorem ft_exp {x : Int32} (e : f_X6_expect x M = some M') : FT M M' := by
  unfold f_X6_expect at e
  cases hk : f_X6_kind M with
  | none => rw [hk] at e; cases e
  | some v =>
    rw [hk, sb] at e
    by_cases a : v = x
    · rw [if_pos a] at e
      cases hp : f_X6_pass M with
      | none => rw [hp] at e; cases e
      | some M1 =>
        rw [hp, sb] at e
        cases e
        exact ft_pass hp
    · rw [if_neg a] at e
      cases hp : f_X6_fail 1 M with
      | none => rw [hp] at e; cases e
      | some M1 =>
        rw [hp, sb] at e
        cases e
        exact ft_fail hp
/-- a later fault noted, whatever stands -/
def KL (M M' : Mem) : Prop := (∀ a, a ≠ 23 → M'.1 a = M.1 a) ∧ (∀ i, i ≠ 8 → i ≠ 9 → M'.1 23 i = M.1 23 i) ∧ M'.2 = M.2
theorem KL.rf : KL M M := ⟨fun _ _ => rfl, fun _ _ _ => rfl, rfl⟩
theorem KL.ft (h : KL M M') : FT M M' := ⟨h.1, fun i _ _ _ p q => h.2.1 i p q, h.2.2⟩
theorem c_laterA (x y : Int32) (M : Mem) : ∃ M', f_X6_failLater x y M = some M' ∧ KL M M' := by
  unfold f_X6_failLater
  by_cases h : M.1 23 8 = 0
  · rw [if_pos h, lt_def, lt_def]
    exact ⟨_, rfl, fun a q => (sI_cell q).trans (sI_cell q), fun i q r => (sI_ix r).trans (sI_ix q), rfl⟩
  · rw [if_neg h]
    exact ⟨M, rfl, KL.rf⟩
/-- the names, as the class keeps them -/
def cvN (c : Nat) : Int32 := if c < 10 then nI c else -1
def cvO : Option Nat → Int32
  | none => -1
  | some c => nI c
def NMc (nm : List (Int64 × Nat)) (M : Mem) : Prop := M.1 23 4 = nI nm.length ∧ nm.length ≤ 18 ∧ ∀ j p, nm[j]? = some p → M.2.1 29 j = p.1 ∧ M.1 30 j = cvN p.2
theorem NMc.ft (h : NMc nm M) (f : FT M M') : NMc nm M' := by
  unfold NMc at h ⊢
  rw [f.2.1 4 (by decide) (by decide) (by decide) (by decide) (by decide), f.1 30 (by decide), f.2.2]
  exact h
theorem NMc.app {x : Int64} {c : Nat} (h : NMc nm M) (hl : nm.length < 18) : NMc (nm ++ [(x, c)]) (sI (sI (sJ M 29 nm.length x) 30 nm.length (cvN c)) 23 4 (nI (nm.length + 1))) := by
  have el : (nm ++ [(x, c)]).length = nm.length + 1 := List.length_append
  refine ⟨by rw [el]; exact sI_same, by rw [el]; omega, fun j p e => ?_⟩
  have hj : j < nm.length + 1 := by
    have := (List.getElem?_eq_some_iff.mp e).1
    rwa [el] at this
  rcases Nat.lt_or_ge j nm.length with q | q
  · rw [List.getElem?_append_left q] at e
    obtain ⟨a, b⟩ := h.2.2 j p e
    exact ⟨(sJ_ix (by omega)).trans a, (congrFun (sI_cell (by decide)) j).trans ((sI_ix (by omega)).trans b)⟩
  · have ej : j = nm.length := by omega
    subst ej
    rw [List.getElem?_append_right (Nat.le_refl _), Nat.sub_self] at e
    cases e
    exact ⟨sJ_same, (congrFun (sI_cell (by decide)) nm.length).trans sI_same⟩
/-- alive at token i with n pieces of code -/
def AV (E t i n : Nat) (nm : List (Int64 × Nat)) (lf : Nat × Nat) (M : Mem) : Prop := PS t i n M ∧ LFc lf M ∧ NMc nm M ∧ (lf.1 = 0 → ndN nm) ∧ i ≤ E ∧ n ≤ 6 + i
def DQ (t e p : Nat) (M : Mem) : Prop := DD t e p M ∧ ∃ c, c ≤ 18 ∧ M.1 23 4 = nI c
theorem DQ.kl {e p : Nat} (ht : isT t) (D : DQ t e p M) (k : KL M M') : DQ t e p M' := by
  have t23 := isT_23 ht
  obtain ⟨⟨d1, d2, d3, d4, d5⟩, c, hc, d6⟩ := D
  refine ⟨⟨⟨(k.2.1 7 (by decide) (by decide)).trans d1.1, d1.2⟩, (k.2.1 0 (by decide) (by decide)).trans d2, ?_, ?_, ?_⟩, c, hc, (k.2.1 4 (by decide) (by decide)).trans d6⟩
  · rw [k.2.1 6 (by decide) (by decide)]; exact d3
  · rw [k.1 t t23.1]; exact d4
  · rw [k.2.2]; exact d5
theorem PS.kl {i : Nat} (ht : isT t) (S : PS t i n M) (k : KL M M') : PS t i n M' := by
  have t23 := isT_23 ht
  unfold PS at S ⊢
  rw [k.2.1 7 (by decide) (by decide), k.2.1 6 (by decide) (by decide), k.1 t t23.1, k.2.2]
  exact S
theorem LFc.pf (ht : isT t) (L : LFc lf M) (f : PF t n M M') : LFc lf M' := by
  unfold LFc at L ⊢
  rw [f.2.2.1 8 (by decide) (by decide) (by decide), f.2.2.1 9 (by decide) (by decide) (by decide)]
  exact L
theorem lfU_n {c : Bool} {f p : Nat} (h : lf.1 ≠ 0) : lfU lf c f p = lf := by
  unfold lfU
  rw [if_neg (fun z => h z.1)]
theorem lfU_f {f p : Nat} : lfU lf false f p = lf := by
  unfold lfU
  rw [if_neg (fun z => Bool.noConfusion z.2)]
theorem lfU_0 {c : Bool} {f p : Nat} (h : (lfU lf c f p).1 = 0) (hf : f ≠ 0) : lf.1 = 0 ∧ c = false := by
  unfold lfU at h
  by_cases a : lf.1 = 0 ∧ c = true
  · rw [if_pos a] at h
    exact absurd h hf
  · rw [if_neg a] at h
    refine ⟨h, ?_⟩
    cases c
    · rfl
    · exact absurd ⟨h, rfl⟩ a
/-- alive: a token that must be there -/
theorem c_exA {i k : Nat} (ht : isT t) (w : wfK K P V E) (T : tokC K P V N E M) (A : AV E t i n nm lf M) (hk : k < 43) (h0 : k ≠ 0) (h3 : k ≠ 3) : ∃ M', f_X6_expect (nI (cmN k)) M = some M' ∧ FT M M' ∧ LFc lf M' ∧ NMc nm M' ∧ (∀ j, exK K k i = .ok j → AV E t j n nm lf M' ∧ j = i + 1) ∧ ∀ x, exK K k i = .error x → DQ t x.1 (P x.2) M' := by
  obtain ⟨S, L, Q, nd, hi, hn⟩ := A
  have hE := w.1
  obtain ⟨M1, e1, f1, a1, a2⟩ := ceX (k := k) ht w T hi S (by omega) hk h0 h3
  have F1 := ft_exp e1
  have Q1 := Q.ft F1
  refine ⟨M1, e1, F1, L.pf ht f1, Q1, fun j h => ?_, fun x h => ⟨(a2 x h).1.1, nm.length, Q1.2.1, Q1.1⟩⟩
  obtain ⟨q1, q2, q3, -⟩ := a1 j h
  exact ⟨⟨q3, L.pf ht f1, Q1, nd, q2, by omega⟩, q1⟩
theorem AV.later {i f p : Nat} {M1 : Mem} (ht : isT t) (A : AV E t i n nm lf M) (hf : 0 < f) (hf2 : f < 10) (h : f_X6_failLater (nI f) (nI p) M = some M1) (k : KL M M1) : AV E t i n nm (lfU lf true f p) M1 := by
  obtain ⟨M2, e2, L2, -⟩ := c_later (p := p) hf hf2 A.2.1
  rw [h] at e2
  cases e2
  exact ⟨A.1.kl ht k, L2, A.2.2.1.ft k.ft, fun z => A.2.2.2.1 (lfU_0 z (by omega)).1, A.2.2.2.2⟩
theorem exK_ok {k i j : Nat} (h : exK K k i = .ok j) : K i = k ∧ i < 400 ∧ j = i + 1 := by
  unfold exK at h
  by_cases q : K i = k
  · rw [if_pos q] at h
    by_cases q4 : i < 400
    · rw [if_pos q4] at h
      cases h
      exact ⟨q, q4, rfl⟩
    · rw [if_neg q4] at h; cases h
  · rw [if_neg q] at h; cases h
/-- a corner named -/
theorem c_takeC {i : Nat} (ht : isT t) (w : wfK K P V E) (T : tokC K P V N E M) (A : AV E t i n nm lf M) : ∃ v M', f_X6_takeCorner M = some (v, M') ∧ FN M M' ∧ (∀ j, exK K 1 i = .ok j → AV E t j n nm (cnS P N nm i lf) M' ∧ (lf.1 = 0 → v = cvO (lkM nm (N i)))) ∧ ∀ x, exK K 1 i = .error x → DQ t x.1 (P x.2) M' := by
  have hE := w.1
  obtain ⟨M1, e1, F1, L1, Q1, a1, a2⟩ := c_exA (k := 1) ht w T A (by omega) (by omega) (by omega)
  obtain ⟨M2, e2, k2⟩ := c_laterA (nI 4) (nI (P i)) M1
  obtain ⟨S, L, Q, nd, hi, hn⟩ := A
  have e1' : f_X6_expect 2 M = some M1 := e1
  have e2' : f_X6_failLater 4 (nI (P i)) M1 = some M2 := e2
  have fl := fs_lk (f := M.2.1 29) (x := M.2.1 27 i) (nm := nm) (k := 0) (fun j p e => by rw [Nat.zero_add]; exact (Q.2.2 j p e).1)
  have hx : ∀ j, exK K 1 i = .ok j → M.2.1 27 i = N i := fun j h => (T i hi).2.2.2 (exK_ok h).1
  have run : ∀ {v : Int32} {A}, (match fsN (M.2.1 29) (M.2.1 27 i) 0 nm.length with
    | some j => M.1 30 j
    | none => -1) = v → (if v = -1 then some (v, M2) else some (v, M1)) = A → f_X6_takeCorner M = A := fun {v A} h h' => by
    unfold f_X6_takeCorner
    rw [S.2.1, aj_n (by omega) (by omega), sb, c_find Q.1 Q.2.1, sb, ag_n (by omega) (by omega), (T i hi).2.1, e1']
    cases hf : fsN (M.2.1 29) (M.2.1 27 i) 0 nm.length with
    | none =>
      rw [hf] at h
      have h : (-1 : Int32) = v := h
      show (if (-1 : Int32) = -1 then some (-1 : Int32) else _).bind _ = A
      rw [if_pos rfl, sb, sb, sb, if_pos rfl, e2', sb, ← h', ← h, if_pos rfl]
    | some j =>
      rw [hf] at h
      have hj := fsN_lt hf
      have q2 := Q.2.1
      have h : M.1 30 j = v := h
      show (if nI j = -1 then some (-1 : Int32) else _).bind _ = A
      rw [if_neg (fun z => nI_pos (n := j) (by omega) (by rw [z]; decide)), ag_n (by omega) (by omega), sb, sb, sb, sb, h, e2', sb, h']
  cases hf : fsN (M.2.1 29) (M.2.1 27 i) 0 nm.length with
  | none =>
    have lk := fl.1 hf
    refine ⟨-1, M2, run (by rw [hf]) (if_pos rfl), F1.fn.tr k2.ft.fn, fun j h => ?_, fun x h => (a2 x h).kl ht k2⟩
    rw [hx j h] at lk
    have A2 := (a1 j h).1.later ht (by omega) (by omega) e2 k2
    unfold cnS
    rw [lk.2]
    exact ⟨A2, fun _ => rfl⟩
  | some j =>
    obtain ⟨p, m, hm, c1, c2, c3⟩ := fl.2 j hf
    have ej : j = m := by omega
    have hv : M.1 30 j = cvN p.2 := by rw [ej]; exact (Q.2.2 m p c1).2
    by_cases hp : p.2 < 10
    · have hv : M.1 30 j = nI p.2 := by rw [hv]; exact if_pos hp
      refine ⟨nI p.2, M1, run (by rw [hf]; exact hv) (if_neg (fun z => nI_pos (n := p.2) (by omega) (by rw [z]; decide))), F1.fn, fun j' h => ?_, a2⟩
      have lk : lf.1 = 0 → lkM nm (N i) = some p.2 := fun z => by rw [← hx j' h, c3 (nd z), if_pos hp]
      have ec : cnS P N nm i lf = lf := by
        by_cases z : lf.1 = 0
        · unfold cnS
          rw [lk z]
          exact lfU_f
        · exact lfU_n z
      rw [ec]
      exact ⟨(a1 j' h).1, fun z => by rw [lk z]; rfl⟩
    · have hv : M.1 30 j = -1 := by rw [hv]; exact if_neg hp
      refine ⟨-1, M2, run (by rw [hf]; exact hv) (if_pos rfl), F1.fn.tr k2.ft.fn, fun j' h => ?_, fun x h => (a2 x h).kl ht k2⟩
      have lk : lf.1 = 0 → lkM nm (N i) = none := fun z => by rw [← hx j' h, c3 (nd z), if_neg hp]
      have A2 := (a1 j' h).1.later ht (by omega) (by omega) e2 k2
      have ec : cnS P N nm i lf = lfU lf true 4 (P i) := by
        by_cases z : lf.1 = 0
        · unfold cnS
          rw [lk z]
          rfl
        · unfold cnS
          rw [lfU_n z, lfU_n z]
      rw [ec]
      exact ⟨A2, fun z => by rw [lk z]; rfl⟩
theorem c_takeCD {e p : Nat} (ht : isT t) (D : DQ t e p M) : ∃ v M', f_X6_takeCorner M = some (v, M') ∧ FN M M' ∧ DQ t e p M' := by
  obtain ⟨a, ha, h6⟩ := D.1.2.2.1
  obtain ⟨c, hc, h4⟩ := D.2
  obtain ⟨M2, e2, k2⟩ := c_laterA 4 (M.1 26 a) M
  have fin : ∀ v : Int32, ∃ v' M', (if v = -1 then some (v, M2) else some (v, M)) = some (v', M') ∧ FN M M' ∧ DQ t e p M' := fun v => by
    by_cases h : v = -1
    · rw [if_pos h]; exact ⟨_, _, rfl, k2.ft.fn, D.kl ht k2⟩
    · rw [if_neg h]; exact ⟨_, _, rfl, FN.rf, D⟩
  unfold f_X6_takeCorner
  rw [h6, aj_n (by omega) (by omega), sb, c_find h4 hc, sb, ag_n (by omega) (by omega), c_expD D.1]
  cases hf : fsN (M.2.1 29) (M.2.1 27 a) 0 c with
  | none =>
    show ∃ v M', (if (-1 : Int32) = -1 then some (-1 : Int32) else _).bind _ = some (v, M') ∧ _
    rw [if_pos rfl, sb, sb, sb, e2, sb]
    exact fin (-1)
  | some j =>
    have hj := fsN_lt hf
    show ∃ v M', (if nI j = -1 then some (-1 : Int32) else _).bind _ = some (v, M') ∧ _
    rw [if_neg (fun z => nI_pos (n := j) (by omega) (by rw [z]; decide)), ag_n (by omega) (by omega), sb, sb, sb, sb, e2, sb]
    exact fin (M.1 30 j)
/-- a number from a to b -/
theorem c_takeI {i a b : Nat} (ht : isT t) (w : wfK K P V E) (T : tokC K P V N E M) (A : AV E t i n nm lf M) (ha : a ≤ 9999) (hb : b ≤ 9999) : ∃ v M', f_X6_takeInt (nI a) (nI b) M = some (v, M') ∧ FN M M' ∧ (∀ j, exK K 2 i = .ok j → AV E t j n nm (inS V P a b i lf) M' ∧ v = nI (V i)) ∧ ∀ x, exK K 2 i = .error x → DQ t x.1 (P x.2) M' := by
  have hE := w.1
  obtain ⟨M1, e1, F1, L1, Q1, a1, a2⟩ := c_exA (k := 2) ht w T A (by omega) (by omega) (by omega)
  obtain ⟨M2, e2, k2⟩ := c_laterA (nI 5) (nI (P i)) M1
  obtain ⟨S, L, Q, nd, hi, hn⟩ := A
  have e1' : f_X6_expect 3 M = some M1 := e1
  have e2' : f_X6_failLater 5 (nI (P i)) M1 = some M2 := e2
  have hx : ∀ j, exK K 2 i = .ok j → (M.2.1 27 i).toInt32 = nI (V i) ∧ V i ≤ 9999 := fun j h => ⟨by rw [(T i hi).2.2.1 (exK_ok h).1, lN_i], w.2.2.2.2 i hi (exK_ok h).1⟩
  have hlt : ∀ j, exK K 2 i = .ok j → ((M.2.1 27 i).toInt32 < nI a ↔ V i < a) := fun j h => by
    rw [(hx j h).1]
    have := (hx j h).2
    rcases Nat.lt_or_ge (V i) a with q | q
    · exact ⟨fun _ => q, fun _ => nI_lt q (by omega)⟩
    · exact ⟨fun z => absurd z (nI_nlt q (by omega)), fun z => by omega⟩
  have hle : ∀ j, exK K 2 i = .ok j → ((M.2.1 27 i).toInt32 ≤ nI b ↔ V i ≤ b) := fun j h => by
    rw [(hx j h).1]
    have := (hx j h).2
    rcases Nat.lt_or_ge b (V i) with q | q
    · exact ⟨fun z => absurd z (nI_ge q (by omega)), fun z => by omega⟩
    · exact ⟨fun _ => q, fun _ => nI_le q (by omega)⟩
  unfold f_X6_takeInt
  rw [S.2.1, aj_n (by omega) (by omega), sb, lt_def, ag_n (by omega) (by omega), sb, (T i hi).2.1, e1', sb, e2', sb]
  have late : (∀ j, exK K 2 i = .ok j → (decide (V i < a) || decide (b < V i)) = true) → ∃ v M', some ((M.2.1 27 i).toInt32, M2) = some (v, M') ∧ FN M M' ∧ (∀ j, exK K 2 i = .ok j → AV E t j n nm (inS V P a b i lf) M' ∧ v = nI (V i)) ∧ ∀ x, exK K 2 i = .error x → DQ t x.1 (P x.2) M' := fun hc => by
    refine ⟨_, M2, rfl, F1.fn.tr k2.ft.fn, fun j h => ⟨?_, (hx j h).1⟩, fun x h => (a2 x h).kl ht k2⟩
    unfold inS
    rw [hc j h]
    exact (a1 j h).1.later ht (by omega) (by omega) e2 k2
  by_cases h1 : (M.2.1 27 i).toInt32 < nI a
  · rw [if_pos h1]
    exact late (fun j h => by rw [decide_eq_true ((hlt j h).mp h1)]; rfl)
  · rw [if_neg h1]
    by_cases h2 : (M.2.1 27 i).toInt32 ≤ nI b
    · rw [if_pos h2]
      refine ⟨_, M1, rfl, F1.fn, fun j h => ⟨?_, (hx j h).1⟩, a2⟩
      have q1 := mt (hlt j h).mpr h1
      have q2 := (hle j h).mp h2
      unfold inS
      rw [decide_eq_false q1, decide_eq_false (by omega), show (false || false) = false from rfl, lfU_f]
      exact (a1 j h).1
    · rw [if_neg h2]
      exact late (fun j h => by
        have := mt (hle j h).mpr h2
        rw [decide_eq_true (show b < V i by omega), Bool.or_true])
theorem c_takeID {e p : Nat} {x y : Int32} (ht : isT t) (D : DQ t e p M) : ∃ v M', f_X6_takeInt x y M = some (v, M') ∧ FN M M' ∧ DQ t e p M' := by
  obtain ⟨a, ha, h6⟩ := D.1.2.2.1
  obtain ⟨M2, e2, k2⟩ := c_laterA 5 (M.1 26 a) M
  unfold f_X6_takeInt
  rw [h6, aj_n (by omega) (by omega), sb, lt_def, ag_n (by omega) (by omega), sb, c_expD D.1, sb, e2, sb]
  have r1 : ∃ v M', some ((M.2.1 27 a).toInt32, M2) = some (v, M') ∧ FN M M' ∧ DQ t e p M' := ⟨_, _, rfl, k2.ft.fn, D.kl ht k2⟩
  have r2 : ∃ v M', some ((M.2.1 27 a).toInt32, M) = some (v, M') ∧ FN M M' ∧ DQ t e p M' := ⟨_, _, rfl, FN.rf, D⟩
  split
  · exact r1
  · split
    · exact r2
    · exact r1
/-- a new name -/
theorem c_takeN {i c : Nat} (ht : isT t) (w : wfK K P V E) (T : tokC K P V N E M) (A : AV E t i n nm lf M) (hl : nm.length < 18) : ∃ M', f_X6_takeNewName (cvN c) M = some M' ∧ FN M M' ∧ (∀ j, exK K 1 i = .ok j → AV E t j n (nm ++ [(N i, c)]) (lfU lf (lkN nm (N i)) 3 (P i)) M') ∧ ∀ x, exK K 1 i = .error x → DQ t x.1 (P x.2) M' := by
  have hE := w.1
  obtain ⟨M1, e1, F1, L1, Q1, a1, a2⟩ := c_exA (k := 1) ht w T A (by omega) (by omega) (by omega)
  obtain ⟨S, L, Q, nd, hi, hn⟩ := A
  have e1' : f_X6_expect 2 M = some M1 := e1
  cases hk : exK K 1 i with
  | error x =>
    have D := a2 x hk
    refine ⟨M1, ?_, F1.fn, (fun j h => by cases h), (fun y h => by cases h; exact D)⟩
    unfold f_X6_takeNewName
    rw [S.2.1, aj_n (by omega) (by omega), sb, ag_n (by omega) (by omega), sb, e1', sb, if_neg D.1.n0]
  | ok j =>
    have A1 := (a1 j hk).1
    have hx : M.2.1 27 i = N i := (T i hi).2.2.2 (exK_ok hk).1
    obtain ⟨M2, e2, k2⟩ := c_laterA (nI 3) (nI (P i)) M1
    have e2' : f_X6_failLater 3 (nI (P i)) M1 = some M2 := e2
    have fl := fs_lk (f := M1.2.1 29) (x := N i) (nm := nm) (k := 0) (fun j p e => by rw [Nat.zero_add]; exact (Q1.2.2 j p e).1)
    have t23 := isT_23 ht
    have fin : ∀ {M3 : Mem} {lf' : Nat × Nat}, AV E t j n nm lf' M3 → FN M M3 → (lf'.1 = 0 → lkN nm (N i) = false) → (if (18 : Int32) ≤ M3.1 23 4 then some M3 else (pj M3 29 18 (M3.1 23 4) (N i)).bind fun M13 => (pg M13 30 18 (M13.1 23 4) (cvN c)).bind fun M14 => lt (sI M14 23 4 ((M14.1 23 4) + (1 : Int32))) fun M15 => some M15) = some (sI (sI (sJ M3 29 nm.length (N i)) 30 nm.length (cvN c)) 23 4 (nI (nm.length + 1))) ∧ FN M (sI (sI (sJ M3 29 nm.length (N i)) 30 nm.length (cvN c)) 23 4 (nI (nm.length + 1))) ∧ AV E t j n (nm ++ [(N i, c)]) lf' (sI (sI (sJ M3 29 nm.length (N i)) 30 nm.length (cvN c)) 23 4 (nI (nm.length + 1))) := fun {M3 lf'} A3 f3 h3 => by
      obtain ⟨S3, L3, Q3, nd3, hi3, hn3⟩ := A3
      have c4 : (sJ M3 29 nm.length (N i)).1 23 4 = nI nm.length := Q3.1
      have c5 : (sI (sJ M3 29 nm.length (N i)) 30 nm.length (cvN c)).1 23 4 = nI nm.length := (congrFun (sI_cell (by decide)) 4).trans c4
      refine ⟨?_, f3.tr ⟨fun a p q => (sI_cell p).trans (sI_cell q), fun a p => sJ_cell p, rfl⟩, ⟨?_, ?_, ?_, ?_⟩, ?_, Q3.app hl, fun z => (nd3 z).app (h3 z), hi3, hn3⟩
      · rw [Q3.1, li 18, if_neg (nI_ge hl (by omega)), pj_n hl (by omega), sb, c4, pg_n hl (by omega), sb, c5, nI_1, lt_def]
      · exact (sI_ix (by decide)).trans ((congrFun (sI_cell (by decide)) 7).trans S3.1)
      · exact (sI_ix (by decide)).trans ((congrFun (sI_cell (by decide)) 6).trans S3.2.1)
      · exact (congrFun (sI_cell t23.1) 9).trans ((congrFun (sI_cell (by have := isT_le ht; omega)) 9).trans S3.2.2.1)
      · exact S3.2.2.2
      · unfold LFc at L3 ⊢
        rw [show (sI (sI (sJ M3 29 nm.length (N i)) 30 nm.length (cvN c)) 23 4 (nI (nm.length + 1))).1 23 8 = M3.1 23 8 from (sI_ix (by decide)).trans (congrFun (sI_cell (by decide)) 8), show (sI (sI (sJ M3 29 nm.length (N i)) 30 nm.length (cvN c)) 23 4 (nI (nm.length + 1))).1 23 9 = M3.1 23 9 from (sI_ix (by decide)).trans (congrFun (sI_cell (by decide)) 9)]
        exact L3
    have run : ∀ {M3 A} {u : Int32}, f_X6_find (N i) M1 = some u → (if u = -1 then some M1 else some M2) = some M3 → (if (18 : Int32) ≤ M3.1 23 4 then some M3 else (pj M3 29 18 (M3.1 23 4) (N i)).bind fun M13 => (pg M13 30 18 (M13.1 23 4) (cvN c)).bind fun M14 => lt (sI M14 23 4 ((M14.1 23 4) + (1 : Int32))) fun M15 => some M15) = A → f_X6_takeNewName (cvN c) M = A := fun {M3 A u} h0 h h' => by
      unfold f_X6_takeNewName
      rw [S.2.1, aj_n (by omega) (by omega), sb, ag_n (by omega) (by omega), sb, hx, (T i hi).2.1, e1', sb, A1.1.1, if_pos rfl, h0, sb, e2', sb, h, sb, h']
    cases hf : fsN (M1.2.1 29) (N i) 0 nm.length with
    | none =>
      have lk := (fl.1 hf).1
      rw [lk, lfU_f]
      obtain ⟨r1, r2, r3⟩ := fin A1 F1.fn (fun _ => lk)
      exact ⟨_, run (u := -1) (by rw [c_find Q1.1 Q1.2.1, hf]) (if_pos rfl) r1, r2, (fun j' h => by cases h; exact r3), (fun x h => by cases h)⟩
    | some q =>
      obtain ⟨p, m, hm, c1, c2, c3⟩ := fl.2 q hf
      have hq := fsN_lt hf
      have q18 := Q1.2.1
      rw [c2]
      have A2 := A1.later ht (by omega) (by omega) e2 k2
      obtain ⟨r1, r2, r3⟩ := fin A2 (F1.fn.tr k2.ft.fn) (fun z => absurd (lfU_0 z (by omega)).2 (by decide))
      exact ⟨_, run (u := nI q) (by rw [c_find Q1.1 Q1.2.1, hf]) (if_neg (fun z => nI_pos (n := q) (by omega) (by rw [z]; decide))) r1, r2, (fun j' h => by cases h; exact r3), (fun x h => by cases h)⟩
theorem c_takeND {e p : Nat} {x : Int32} (D : DQ t e p M) : f_X6_takeNewName x M = some M := by
  obtain ⟨a, ha, h6⟩ := D.1.2.2.1
  unfold f_X6_takeNewName
  rw [h6, aj_n (by omega) (by omega), sb, ag_n (by omega) (by omega), sb, c_expD D.1, sb, if_neg D.1.n0]
/-- the first word of a tell that has its limit -/
theorem c_oneA {i c m k : Nat} (ht : isT t) (w : wfK K P V E) (T : tokC K P V N E M) (A : AV E t i n nm lf M) (hk : K i = k) (h0 : k ≠ 0) (h3 : k ≠ 3) (hc : c ≤ 100) (hm : m ≤ 100) : ∃ M', f_X6_passOneOf (nI c) (nI m) M = some M' ∧ FN M M' ∧ (∀ j, (if m ≤ c then .error (2, i) else exK K k i) = .ok j → AV E t j n nm lf M') ∧ ∀ x : Nat × Nat, (if m ≤ c then .error (2, i) else exK K k i) = .error x → DQ t x.1 (P x.2) M' := by
  have hE := w.1
  obtain ⟨S, L, Q, nd, hi, hn⟩ := A
  unfold f_X6_passOneOf
  by_cases h : m ≤ c
  · obtain ⟨M1, e1, f1, D1⟩ := c_fail (x := 2) ht T hi hE S (by omega) (by omega) (by omega)
    have F1 := ft_fail e1
    have Q1 := Q.ft F1
    refine ⟨M1, ?_, F1.fn, ?_, ?_⟩
    · rw [if_neg (nI_nlt h (by omega)), show f_X6_fail 2 M = some M1 from e1, sb, sb, c_goD D1, sb]
    · intro j z; rw [if_pos h] at z; cases z
    · intro x z
      rw [if_pos h] at z
      cases z
      exact ⟨D1, nm.length, Q1.2.1, Q1.1⟩
  · obtain ⟨M1, e1, f1, p1, p2⟩ := c_go ht T hi hE S (by omega)
    have F1 := ft_pass e1
    have Q1 := Q.ft F1
    refine ⟨M1, ?_, F1.fn, ?_, ?_⟩
    · rw [if_pos (nI_lt (by omega) (by omega)), sb, e1, sb]
    · intro j z
      rw [if_neg h] at z
      obtain ⟨z1, z2, rfl⟩ := exK_ok z
      exact ⟨(p1 z2).1, L.pf ht f1, Q1, nd, w.nx hi (by omega) (by omega) z2, by omega⟩
    · intro x z
      rw [if_neg h] at z
      unfold exK at z
      rw [if_pos hk] at z
      by_cases h4 : i < 400
      · rw [if_pos h4] at z; cases z
      · rw [if_neg h4] at z
        cases z
        exact ⟨p2 (by omega), nm.length, Q1.2.1, Q1.1⟩
theorem c_oneD {e p : Nat} {x y : Int32} (D : DQ t e p M) : f_X6_passOneOf x y M = some M := by
  unfold f_X6_passOneOf
  rw [c_failD D.1, sb, ite_self, sb, c_goD D.1, sb]
end CTK

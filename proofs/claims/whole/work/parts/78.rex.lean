-- 78.rex: pure: how the reference reads an expression
section REX
variable {H : Nat} {K V P : Nat → Nat} {N : Nat → Int64} {E : Nat} {M M' : Mem}
def tokM (K P V : Nat → Nat) (N : Nat → Int64) (E : Nat) (M : Mem) : Prop := ∀ j, j ≤ E → M.1 70 j = nI (K j) ∧ M.1 71 j = nI (P j) ∧ (K j = 2 → M.1 72 j = nI (V j)) ∧ (K j = 1 → M.2.1 73 j = N j)
def WT (M : Mem) : List Nat → Prop
  | [] => True
  | x :: r => M.1 100 r.length = nI x ∧ WT M r
theorem WT.of : ∀ {W : List Nat}, WT M W → (∀ q, q < W.length → M'.1 100 q = M.1 100 q) → WT M' W
  | [], _, _ => trivial
  | x :: r, h, e => ⟨(e _ (by rw [List.length_cons]; omega)).trans h.1, WT.of h.2 (fun q hq => e q (by rw [List.length_cons]; omega))⟩
theorem WT.dr : ∀ {p W : List Nat}, WT M (p ++ W) → WT M W
  | [], _, h => h
  | _ :: _, _, h => WT.dr h.2
def CM (M : Mem) : Nat → List (Nat × Nat) → Prop
  | _, [] => True
  | n, x :: c => (M.1 98 n = nI x.1 ∧ M.1 99 n = nI x.2) ∧ CM M (n + 1) c
theorem CM.app : ∀ {n : Nat} {c c2 : List (Nat × Nat)}, CM M n c → CM M (n + c.length) c2 → CM M n (c ++ c2)
  | n, [], c2, _, h => h
  | n, x :: c, c2, h, h2 => ⟨h.1, CM.app h.2 (by rw [List.length_cons] at h2; rwa [show n + 1 + c.length = n + (c.length + 1) by omega])⟩
theorem CM.of : ∀ {n : Nat} {c : List (Nat × Nat)}, CM M n c → (∀ q, n ≤ q → q < n + c.length → M'.1 98 q = M.1 98 q ∧ M'.1 99 q = M.1 99 q) → CM M' n c
  | n, [], _, _ => trivial
  | n, x :: c, h, e => ⟨⟨(e n (Nat.le_refl _) (by rw [List.length_cons]; omega)).1.trans h.1.1, (e n (Nat.le_refl _) (by rw [List.length_cons]; omega)).2.trans h.1.2⟩, CM.of h.2 (fun q a b => e q (by omega) (by rw [List.length_cons]; omega))⟩
/-- what the reference's reader of expressions may write -/
def QF (H n : Nat) (M M' : Mem) : Prop := (∀ a, a ≠ 67 → a ≠ 98 → a ≠ 99 → a ≠ 100 → M'.1 a = M.1 a) ∧ (∀ i, i ∉ [11, 12, 13, 14, 45, 49] → M'.1 67 i = M.1 67 i) ∧ (∀ q, q < n ∨ H ≤ q → M'.1 98 q = M.1 98 q ∧ M'.1 99 q = M.1 99 q) ∧ M'.2 = M.2
theorem QF.rf {n : Nat} : QF H n M M := ⟨fun _ _ _ _ _ => rfl, fun _ _ => rfl, fun _ _ => ⟨rfl, rfl⟩, rfl⟩
theorem QF.tr {n n' : Nat} {M1 : Mem} (h : QF H n M M1) (h' : QF H n' M1 M') (hn : n ≤ n') : QF H n M M' := ⟨fun a p q r s => (h'.1 a p q r s).trans (h.1 a p q r s), fun i p => (h'.2.1 i p).trans (h.2.1 i p), fun q hq => ⟨(h'.2.2.1 q (by omega)).1.trans (h.2.2.1 q hq).1, (h'.2.2.1 q (by omega)).2.trans (h.2.2.1 q hq).2⟩, h'.2.2.2.trans h.2.2.2⟩
theorem QF.fd {n i : Nat} {v : Int32} (h : i ∈ [11, 12, 13, 14, 45, 49]) : QF H n M (sI M 67 i v) := ⟨fun a p _ _ _ => sI_cell p, fun j p => sI_ix (fun z => p (z ▸ h)), fun q _ => ⟨congrFun (sI_cell (by decide)) q, congrFun (sI_cell (by decide)) q⟩, rfl⟩
theorem QF.wt {n i : Nat} {v : Int32} : QF H n M (sI M 100 i v) := ⟨fun a _ _ _ p => sI_cell p, fun j _ => congrFun (sI_cell (by decide)) j, fun q _ => ⟨congrFun (sI_cell (by decide)) q, congrFun (sI_cell (by decide)) q⟩, rfl⟩
theorem tokM.qf {n : Nat} (h : tokM K P V N E M) (f : QF H n M M') : tokM K P V N E M' := by
  unfold tokM at h ⊢
  rw [f.1 70 (by decide) (by decide) (by decide) (by decide), f.1 71 (by decide) (by decide) (by decide) (by decide), f.1 72 (by decide) (by decide) (by decide) (by decide), f.2.2.2]
  exact h
def QS (i d n : Nat) (W : List Nat) (M : Mem) : Prop := M.1 67 13 = 0 ∧ M.1 67 11 = nI i ∧ M.1 67 12 = nI d ∧ M.1 67 49 = nI W.length ∧ M.1 67 45 = nI n ∧ WT M W
def QD (e p : Nat) (M : Mem) : Prop := (M.1 67 13 = nI e ∧ 0 < e ∧ e < 10) ∧ M.1 67 14 = nI p ∧ ∃ a, a ≤ 400 ∧ M.1 67 11 = nI a
theorem QD.n0 {e p : Nat} (h : QD e p M) : ¬ M.1 67 13 = 0 := by
  rw [h.1.1]
  exact nI_ne0 h.1.2.1 (by have := h.1.2.2; omega)
theorem QD.nl {e p : Nat} (h : QD e p M) : ¬ M.1 67 13 ≤ 0 := by
  rw [h.1.1]
  exact nI_nle h.1.2.1 (by have := h.1.2.2; omega)
theorem QD.gt {e p : Nat} (h : QD e p M) : 0 < M.1 67 13 := by
  rw [h.1.1]
  exact nI_lt h.1.2.1 (by have := h.1.2.2; omega)
theorem r_is0 {i k : Nat} (w : wfK K P V E) (T : tokM K P V N E M) (hi : i ≤ E) (h0 : M.1 67 13 = 0) (h1 : M.1 67 11 = nI i) (hk : k < 43) : f_X12_is (nI k) M = some (if K i = k then 1 else 0) := by
  have hE := w.1
  have hK := (w.2.1 i hi).1
  unfold f_X12_is
  rw [h0, if_pos rfl, h1, ag_n (by omega) (by omega), sb, (T i hi).1]
  by_cases h : K i = k
  · rw [if_pos (by rw [h]), if_pos h]
  · rw [if_neg (fun z => h (nI_inj (by omega) (by omega) z)), if_neg h]
theorem r_isD {e p : Nat} {x : Int32} (h : QD e p M) : f_X12_is x M = some 0 := by
  unfold f_X12_is
  rw [if_neg h.n0]
theorem r_failD {e p : Nat} {x : Int32} (h : QD e p M) : f_X12_fail x M = some M := by
  unfold f_X12_fail
  rw [if_neg h.nl]
theorem r_fail0 {i x n : Nat} (w : wfK K P V E) (T : tokM K P V N E M) (hi : i ≤ E) (h0 : M.1 67 13 = 0) (h1 : M.1 67 11 = nI i) (hx : 0 < x) (hx2 : x < 10) : ∃ M', f_X12_fail (nI x) M = some M' ∧ QF H n M M' ∧ QD x (P i) M' ∧ M'.1 100 = M.1 100 ∧ M'.1 67 49 = M.1 67 49 ∧ M'.1 67 45 = M.1 67 45 ∧ M'.1 67 12 = M.1 67 12 := by
  have hE := w.1
  have e1 : (sI M 67 13 (nI x)).1 67 11 = nI i := (sI_ix (by decide)).trans h1
  have e2 : (sI M 67 13 (nI x)).1 71 i = nI (P i) := (congrFun (sI_cell (by decide)) i).trans (T i hi).2.1
  unfold f_X12_fail
  refine ⟨sI (sI M 67 13 (nI x)) 67 14 (nI (P i)), ?_, (QF.fd (by decide)).tr (QF.fd (by decide)) (Nat.le_refl _), ⟨⟨(sI_ix (by decide)).trans sI_same, hx, hx2⟩, sI_same, i, by omega, (sI_ix (by decide)).trans e1⟩, rfl, (sI_ix (by decide)).trans (sI_ix (by decide)), (sI_ix (by decide)).trans (sI_ix (by decide)), (sI_ix (by decide)).trans (sI_ix (by decide))⟩
  rw [h0, if_pos (by decide), lt_def, e1, ag_n (by omega) (by omega), sb, e2, lt_def]
theorem r_goD {e p n : Nat} (h : QD e p M) : ∃ M', f_X12_goesOn M = some M' ∧ QF H n M M' ∧ QD e p M' ∧ M'.1 100 = M.1 100 ∧ M'.1 67 49 = M.1 67 49 ∧ M'.1 67 45 = M.1 67 45 ∧ M'.1 67 12 = M.1 67 12 := by
  obtain ⟨a, ha, h1⟩ := h.2.2
  unfold f_X12_goesOn
  rw [h1, li 400]
  by_cases z : nI a = nI 400
  · exact ⟨M, by rw [if_pos z, r_failD h, sb], QF.rf, h, rfl, rfl, rfl, rfl⟩
  · have : a ≠ 400 := fun q => z (by rw [q])
    refine ⟨sI M 67 11 (nI (a + 1)), by rw [if_neg z, nI_1, lt_def], QF.fd (by decide), ⟨⟨(sI_ix (by decide)).trans h.1.1, h.1.2⟩, (sI_ix (by decide)).trans h.2.1, a + 1, by omega, sI_same⟩, rfl, sI_ix (by decide), sI_ix (by decide), sI_ix (by decide)⟩
theorem r_go0 {i n : Nat} (w : wfK K P V E) (T : tokM K P V N E M) (hi : i ≤ E) (h0 : M.1 67 13 = 0) (h1 : M.1 67 11 = nI i) : ∃ M', f_X12_goesOn M = some M' ∧ QF H n M M' ∧ (i < 400 → M'.1 67 13 = 0 ∧ M'.1 67 11 = nI (i + 1) ∧ M'.1 98 = M.1 98 ∧ M'.1 99 = M.1 99) ∧ (¬ i < 400 → QD 2 (P i) M') ∧ M'.1 100 = M.1 100 ∧ M'.1 67 49 = M.1 67 49 ∧ M'.1 67 45 = M.1 67 45 ∧ M'.1 67 12 = M.1 67 12 := by
  have hE := w.1
  unfold f_X12_goesOn
  rw [h1, li 400]
  by_cases z : i < 400
  · exact ⟨sI M 67 11 (nI (i + 1)), by rw [if_neg (fun q => by have := nI_inj (by omega) (by omega) q; omega), nI_1, lt_def], QF.fd (by decide), fun _ => ⟨(sI_ix (by decide)).trans h0, sI_same, sI_cell (by decide), sI_cell (by decide)⟩, fun q => absurd z q, rfl, sI_ix (by decide), sI_ix (by decide), sI_ix (by decide)⟩
  · obtain ⟨M1, e1, f1, D1, g⟩ := r_fail0 (n := n) (x := 2) w T hi h0 h1 (by omega) (by omega)
    exact ⟨M1, by rw [if_pos (by rw [show i = 400 by omega]), show f_X12_fail 2 M = some M1 from e1, sb], f1, fun q => absurd q z, fun _ => D1, g⟩
theorem r_emit0 {n : Nat} {x y : Int32} (hH : H ≤ 840) (h : M.1 67 45 = nI n) (hn : n < H) : ∃ M', f_X12_emit x y M = some M' ∧ QF H n M M' ∧ M'.1 67 45 = nI (n + 1) ∧ M'.1 98 n = x ∧ M'.1 99 n = y ∧ (∀ q, q ≠ n → M'.1 98 q = M.1 98 q ∧ M'.1 99 q = M.1 99 q) ∧ M'.1 100 = M.1 100 ∧ ∀ i, i ≠ 45 → M'.1 67 i = M.1 67 i := by
  have e1 : (sI M 98 n x).1 67 45 = nI n := (congrFun (sI_cell (by decide)) 45).trans h
  have e2 : (sI (sI M 98 n x) 99 n y).1 67 45 = nI n := (congrFun (sI_cell (by decide)) 45).trans e1
  refine ⟨sI (sI (sI M 98 n x) 99 n y) 67 45 (nI (n + 1)), ?_, ⟨fun a p q r _ => (sI_cell p).trans ((sI_cell r).trans (sI_cell q)), fun j p => (sI_ix (show j ≠ 45 from fun z => p (by rw [z]; decide))).trans ((congrFun (sI_cell (by decide)) j).trans (congrFun (sI_cell (by decide)) j)), fun q hq => ⟨(congrFun (sI_cell (by decide)) q).trans ((congrFun (sI_cell (by decide)) q).trans (sI_ix (by omega))), (congrFun (sI_cell (by decide)) q).trans ((sI_ix (by omega)).trans (congrFun (sI_cell (by decide)) q))⟩, rfl⟩, sI_same, (congrFun (sI_cell (by decide)) n).trans ((congrFun (sI_cell (by decide)) n).trans sI_same), (congrFun (sI_cell (by decide)) n).trans sI_same, fun q hq => ⟨(congrFun (sI_cell (by decide)) q).trans ((congrFun (sI_cell (by decide)) q).trans (sI_ix hq)), (congrFun (sI_cell (by decide)) q).trans ((sI_ix hq).trans (congrFun (sI_cell (by decide)) q))⟩, rfl, fun i hi => (sI_ix hi).trans ((congrFun (sI_cell (by decide)) i).trans (congrFun (sI_cell (by decide)) i))⟩
  have h8 : n < 840 := Nat.lt_of_lt_of_le hn hH
  unfold f_X12_emit
  rw [h, pg_n h8 (by omega), sb, e1, pg_n h8 (by omega), sb, e2, nI_1, lt_def]
/-- the signs that wait come out: whatever waits, dead or alive -/
theorem r_outZ (hH : H ≤ 840) : ∀ (W : List Nat) (fu n : Nat) (M : Mem), W.length < fu → M.1 67 49 = nI W.length → W.length < 2 ^ 6 → M.1 67 45 = nI n → n + W.length ≤ H → ∃ M', f_X12_comesOut_L0 (fun t => some t) fu 0 M = some M' ∧ QF H n M M' ∧ M'.1 67 13 = M.1 67 13 ∧ M'.1 67 14 = M.1 67 14 ∧ M'.1 67 11 = M.1 67 11
  | [], fu, n, M, hf, h49, hw, h45, hn => by
    obtain ⟨q, rfl⟩ : ∃ q, fu = q + 1 := ⟨fu - 1, by omega⟩
    refine ⟨M, ?_, QF.rf, rfl, rfl, rfl⟩
    rw [f_X12_comesOut_L0, h49, if_pos (by show nI 0 ≤ 0; decide)]
  | x :: r, fu, n, M, hf, h49, hw, h45, hn => by
    obtain ⟨q, rfl⟩ : ∃ q, fu = q + 1 := ⟨fu - 1, by omega⟩
    rw [List.length_cons] at hf h49 hw hn
    rw [f_X12_comesOut_L0, h49, if_neg (nI_nle (by omega) (by omega)), nI_pred, ag_n (by omega) (by omega), sb]
    by_cases h6 : M.1 100 r.length = 6
    · rw [if_pos h6]
      exact ⟨M, rfl, QF.rf, rfl, rfl, rfl⟩
    · rw [if_neg h6]
      simp only [lt_def]
      have e45 : (sI M 67 49 (nI r.length)).1 67 45 = nI n := (sI_ix (by decide)).trans h45
      obtain ⟨M1, e1, f1, g1, -, -, -, -, k1⟩ := r_emit0 hH (x := if M.1 100 r.length = 8 then 2 else if M.1 100 r.length = 9 then 3 else if M.1 100 r.length = 10 then 4 else 5) (y := 0) e45 (by omega)
      obtain ⟨M2, e2, f2, p1, p2, p3⟩ := r_outZ hH r q (n + 1) M1 (by omega) ((k1 49 (by decide)).trans sI_same) (by omega) g1 (by omega)
      refine ⟨M2, ?_, ((QF.fd (by decide)).tr f1 (Nat.le_refl _)).tr f2 (by omega), p1.trans ((k1 13 (by decide)).trans (sI_ix (by decide))), p2.trans ((k1 14 (by decide)).trans (sI_ix (by decide))), p3.trans ((k1 11 (by decide)).trans (sI_ix (by decide)))⟩
      rw [if_pos trivial, e1, sb, e2]
def flR (p : List Nat) : List (Nat × Nat) := p.map (fun k => (opK k, 0))
theorem opK_e {k : Nat} (h : k = 8 ∨ k = 9 ∨ k = 10 ∨ k = 15) : (if nI k = 8 then (2 : Int32) else if nI k = 9 then 3 else if nI k = 10 then 4 else 5) = nI (opK k) ∧ nI k ≠ 6 := by
  rcases h with h | h | h | h <;> subst h <;> decide
theorem lvK_o {k : Nat} (h : lvK k < 2) : k = 8 ∨ k = 9 ∨ k = 10 ∨ k = 15 := by
  unfold lvK at h
  by_cases a : k = 8 ∨ k = 9
  · omega
  · rw [if_neg a] at h
    by_cases b : k = 10 ∨ k = 15
    · omega
    · rw [if_neg b] at h
      omega
/-- lv = 0: down to the bracket; lv = 1: only * and / -/
def tpW (lv : Nat) : List Nat → Prop
  | [] => True
  | x :: _ => x = 6 ∨ (lv = 1 ∧ (x = 8 ∨ x = 9))
theorem r_outA {lv i d : Nat} {W : List Nat} (hH : H ≤ 840) (hlv : lv < 2) (hW : tpW lv W) : ∀ (p : List Nat) (fu n : Nat) (M : Mem), (∀ k ∈ p, lv ≤ lvK k ∧ lvK k < 2) → p.length < fu → (p ++ W).length < 2 ^ 6 → n + p.length ≤ H → QS i d n (p ++ W) M → ∃ M', f_X12_comesOut_L0 (fun t => some t) fu (nI lv) M = some M' ∧ QF H n M M' ∧ QS i d (n + p.length) W M' ∧ CM M' n (flR p) ∧ M'.1 67 14 = M.1 67 14
  | [], fu, n, M, hp, hf, hl, hn, S => by
    obtain ⟨q, rfl⟩ : ∃ q, fu = q + 1 := ⟨fu - 1, by omega⟩
    rw [List.nil_append] at S hl
    refine ⟨M, ?_, QF.rf, S, trivial, rfl⟩
    cases W with
    | nil => rw [f_X12_comesOut_L0, S.2.2.2.1, if_pos (by show nI 0 ≤ 0; decide)]
    | cons x r =>
      rw [List.length_cons] at hl
      have h49 := S.2.2.2.1
      rw [List.length_cons] at h49
      rw [f_X12_comesOut_L0, h49, if_neg (nI_nle (by omega) (by omega)), nI_pred, ag_n (by omega) (by omega), sb, S.2.2.2.2.2.1]
      rcases hW with h | ⟨h1, h | h⟩
      · subst h
        rw [if_pos (by decide)]
      · subst h; subst h1
        rw [if_neg (by decide)]
        simp only [lt_def]
        rw [if_neg (by decide), if_pos (by decide)]
      · subst h; subst h1
        rw [if_neg (by decide)]
        simp only [lt_def]
        rw [if_neg (by decide), if_neg (by decide), if_pos (by decide)]
  | x :: p, fu, n, M, hp, hf, hl, hn, S => by
    obtain ⟨q, rfl⟩ : ∃ q, fu = q + 1 := ⟨fu - 1, by omega⟩
    rw [List.length_cons] at hf hn
    rw [List.cons_append, List.length_cons] at hl
    have h49 := S.2.2.2.1
    rw [List.cons_append, List.length_cons] at h49
    obtain ⟨l1, l2⟩ := hp x List.mem_cons_self
    obtain ⟨o1, o2⟩ := opK_e (lvK_o l2)
    have top : M.1 100 (p ++ W).length = nI x := S.2.2.2.2.2.1
    rw [f_X12_comesOut_L0, h49, if_neg (nI_nle (by omega) (by omega)), nI_pred, ag_n (by omega) (by omega), sb, top, if_neg o2]
    simp only [lt_def]
    rw [o1]
    have e45 : (sI M 67 49 (nI (p ++ W).length)).1 67 45 = nI n := (sI_ix (by decide)).trans S.2.2.2.2.1
    obtain ⟨M1, e1, f1, g1, c1, c2, c3, c4, k1⟩ := r_emit0 hH (x := nI (opK x)) (y := 0) e45 (by omega)
    have S1 : QS i d (n + 1) (p ++ W) M1 := ⟨(k1 13 (by decide)).trans ((sI_ix (by decide)).trans S.1), (k1 11 (by decide)).trans ((sI_ix (by decide)).trans S.2.1), (k1 12 (by decide)).trans ((sI_ix (by decide)).trans S.2.2.1), (k1 49 (by decide)).trans sI_same, g1, WT.of S.2.2.2.2.2.2 (fun q _ => congrFun (c4.trans (sI_cell (by decide))) q)⟩
    obtain ⟨M2, e2, f2, S2, C2, k2⟩ := r_outA hH hlv hW p q (n + 1) M1 (fun k hk => hp k (List.mem_cons_of_mem _ hk)) (by omega) (by omega) (by omega) S1
    refine ⟨M2, ?_, ((QF.fd (by decide)).tr f1 (Nat.le_refl _)).tr f2 (by omega), by rw [List.length_cons, show n + (p.length + 1) = n + 1 + p.length by omega]; exact S2, ⟨⟨(f2.2.2.1 n (by omega)).1.trans c1, (f2.2.2.1 n (by omega)).2.trans c2⟩, C2⟩, k2.trans ((k1 14 (by decide)).trans (sI_ix (by decide)))⟩
    rcases (by omega : lv = 0 ∨ lv = 1) with z | z
    · subst z
      rw [if_pos (show nI 0 = 0 from rfl), e1, sb, e2]
    · subst z
      have : x = 10 ∨ x = 15 := by
        have := lvK_o l2
        unfold lvK at l1
        by_cases a : x = 8 ∨ x = 9
        · rw [if_pos a] at l1; omega
        · omega
      rw [if_neg (show ¬ nI 1 = 0 by decide), if_neg (by rcases this with h | h <;> subst h <;> decide), if_neg (by rcases this with h | h <;> subst h <;> decide), e1, sb, e2]
end REX

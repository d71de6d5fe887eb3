-- 75.rd: pure: how an expression is read, and how the class reads it
section RDS
variable (K V : Nat → Nat)
def lvK (k : Nat) : Nat := if k = 8 ∨ k = 9 then 0 else if k = 10 ∨ k = 15 then 1 else 2
def opK (k : Nat) : Nat := if k = 8 then 2 else if k = 9 then 3 else if k = 10 then 4 else 5
def rdL (g : Nat → Except (Nat × Nat) (List (Nat × Nat) × Nat)) (lv : Nat) : Nat → List (Nat × Nat) → Nat → Except (Nat × Nat) (List (Nat × Nat) × Nat)
  | 0, c, j => .ok (c, j)
  | n + 1, c, j => if lvK (K j) = lv then (if j < 400 then (match g (j + 1) with
      | .error e => .error e
      | .ok r => rdL g lv n (c ++ (r.1 ++ [(opK (K j), 0)])) r.2) else .error (2, j)) else .ok (c, j)
def rdG : Nat → Nat → Nat → Nat → Except (Nat × Nat) (List (Nat × Nat) × Nat)
  | 0, _, _, _ => .error (9, 0)
  | f + 1, lv, d, i => if lv < 2 then (match rdG f (lv + 1) d i with
      | .error e => .error e
      | .ok r => rdL K (rdG f (lv + 1) d) lv 401 r.1 r.2)
    else if K i = 2 then (if i < 400 then .ok ([(0, V i)], i + 1) else .error (2, i))
    else if 34 ≤ K i ∧ K i ≤ 42 then (if i < 400 then .ok ([(1, K i - 34)], i + 1) else .error (2, i))
    else if K i = 6 then (if 6 ≤ d then .error (2, i) else if i < 400 then (match rdG f 0 (d + 1) (i + 1) with
      | .error e => .error e
      | .ok r => if K r.2 = 7 then (if r.2 < 400 then .ok (r.1, r.2 + 1) else .error (2, r.2)) else .error (1, r.2)) else .error (2, i))
    else .error (1, i)
end RDS
def ccN (k : Nat) : Nat := if k = 0 then 0 else if k = 1 then 1 else if k = 2 then 43 else if k = 3 then 45 else if k = 4 then 42 else 47
def cdC (x : Nat × Nat) : Nat := ccN x.1 * 16384 + x.2
section RDC
variable {K V P : Nat → Nat} {N : Nat → Int64} {E t : Nat} {M M' : Mem}
def tokC (K P V : Nat → Nat) (N : Nat → Int64) (E : Nat) (M : Mem) : Prop := ∀ j, j ≤ E → M.1 25 j = nI (cmN (K j)) ∧ M.1 26 j = nI (P j) ∧ (K j = 2 → M.2.1 27 j = lN (V j)) ∧ (K j = 1 → M.2.1 27 j = N j)
def wfK (K P V : Nat → Nat) (E : Nat) : Prop := E ≤ 400 ∧ (∀ j, j ≤ E → K j < 43 ∧ P j ≤ 2000) ∧ (∀ j, j < E → K j ≠ 0 ∧ K j ≠ 3) ∧ (E = 400 ∨ K E = 0 ∨ K E = 3) ∧ ∀ j, j ≤ E → K j = 2 → V j ≤ 9999
theorem wfK.nx (w : wfK K P V E) {i : Nat} (hi : i ≤ E) (h0 : K i ≠ 0) (h3 : K i ≠ 3) (h4 : i < 400) : i + 1 ≤ E := by
  rcases w.2.2.2.1 with h | h | h
  · omega
  · rcases Nat.lt_or_ge i E with q | q
    · omega
    · exact absurd (by rw [show i = E by omega]; exact h) h0
  · rcases Nat.lt_or_ge i E with q | q
    · omega
    · exact absurd (by rw [show i = E by omega]; exact h) h3
def CD (t : Nat) (M : Mem) : Nat → List (Nat × Nat) → Prop
  | _, [] => True
  | n, x :: c => M.1 (t + 9) n = nI (cdC x) ∧ CD t M (n + 1) c
theorem CD.app : ∀ {n : Nat} {c c2 : List (Nat × Nat)}, CD t M n c → CD t M (n + c.length) c2 → CD t M n (c ++ c2)
  | n, [], c2, _, h => h
  | n, x :: c, c2, h, h2 => ⟨h.1, CD.app h.2 (by rw [List.length_cons] at h2; rwa [show n + 1 + c.length = n + (c.length + 1) by omega])⟩
theorem CD.of : ∀ {n : Nat} {c : List (Nat × Nat)}, CD t M n c → (∀ q, n ≤ q → q < n + c.length → M'.1 (t + 9) q = M.1 (t + 9) q) → CD t M' n c
  | n, [], _, _ => trivial
  | n, x :: c, h, e => ⟨(e n (Nat.le_refl _) (by rw [List.length_cons]; omega)).trans h.1, CD.of h.2 (fun q a b => e q (by omega) (by rw [List.length_cons]; omega))⟩
/-- what the reader may write: of town t the laws' code from n on -/
def PF (t n : Nat) (M M' : Mem) : Prop := (∀ a, a ≠ 23 → a ≠ t → a ≠ t + 9 → M'.1 a = M.1 a) ∧ (∀ i, i ≠ 9 → M'.1 t i = M.1 t i) ∧ (∀ i, i ≠ 0 → i ≠ 6 → i ≠ 7 → M'.1 23 i = M.1 23 i) ∧ (∀ q, q < n → M'.1 (t + 9) q = M.1 (t + 9) q) ∧ M'.2 = M.2
theorem PF.rf {n : Nat} : PF t n M M := ⟨fun _ _ _ _ => rfl, fun _ _ => rfl, fun _ _ _ _ => rfl, fun _ _ => rfl, rfl⟩
theorem PF.tr {n n' : Nat} {M1 : Mem} (h : PF t n M M1) (h' : PF t n' M1 M') (hn : n ≤ n') : PF t n M M' := ⟨fun a p q r => (h'.1 a p q r).trans (h.1 a p q r), fun i p => (h'.2.1 i p).trans (h.2.1 i p), fun i p q r => (h'.2.2.1 i p q r).trans (h.2.2.1 i p q r), fun q hq => (h'.2.2.2.1 q (by omega)).trans (h.2.2.2.1 q hq), h'.2.2.2.2.trans h.2.2.2.2⟩
theorem tokC.pf {n : Nat} (h : tokC K P V N E M) (ht : isT t) (f : PF t n M M') : tokC K P V N E M' := by
  have := isT_le ht
  unfold tokC at h ⊢
  rw [f.1 25 (by decide) (by omega) (by omega), f.1 26 (by decide) (by omega) (by omega), f.2.2.2.2]
  exact h
/-- alive at token i, n pieces of code; dead with fault e at place p -/
def PS (t i n : Nat) (M : Mem) : Prop := M.1 23 7 = 0 ∧ M.1 23 6 = nI i ∧ M.1 t 9 = nI n ∧ M.2.2 23 5 = some t
def DD (t e p : Nat) (M : Mem) : Prop := (M.1 23 7 = nI e ∧ 0 < e ∧ e < 10) ∧ M.1 23 0 = nI p ∧ (∃ a, a ≤ 400 ∧ M.1 23 6 = nI a) ∧ (∃ n, n ≤ 407 ∧ M.1 t 9 = nI n) ∧ M.2.2 23 5 = some t
theorem DD.n0 {e p : Nat} (h : DD t e p M) : ¬ M.1 23 7 = 0 := by
  rw [h.1.1]
  exact nI_ne0 h.1.2.1 (by have := h.1.2.2; omega)
theorem isT_23 (ht : isT t) : t ≠ 23 ∧ t + 9 ≠ 23 ∧ t ≠ 25 ∧ t ≠ 26 ∧ t + 9 ≠ 25 ∧ t + 9 ≠ 26 := by
  have := isT_le ht
  omega
theorem c_go {i n : Nat} (ht : isT t) (T : tokC K P V N E M) (hi : i ≤ E) (hE : E ≤ 400) (S : PS t i n M) (hn : n ≤ 407) : ∃ M', f_X6_pass M = some M' ∧ PF t n M M' ∧ (i < 400 → PS t (i + 1) n M' ∧ M'.1 (t + 9) = M.1 (t + 9)) ∧ (i = 400 → DD t 2 (P i) M') := by
  have t23 := isT_23 ht
  unfold f_X6_pass
  rw [S.1, if_pos rfl, S.2.1, li 400]
  by_cases h : i < 400
  · refine ⟨sI M 23 6 (nI (i + 1)), by rw [if_neg (nI_ge h (by omega)), nI_1, lt_def], ⟨fun a p _ _ => sI_cell p, fun j _ => congrFun (sI_cell t23.1) j, fun j _ p _ => sI_ix p, fun q _ => congrFun (sI_cell t23.2.1) q, rfl⟩, fun _ => ⟨⟨(sI_ix (by decide)).trans S.1, sI_same, (congrFun (sI_cell t23.1) 9).trans S.2.2.1, S.2.2.2⟩, sI_cell t23.2.1⟩, fun z => absurd z (by omega)⟩
  · have e6 : (sI M 23 7 2).1 23 6 = nI i := (sI_ix (by decide)).trans S.2.1
    have e26 : (sI M 23 7 2).1 26 i = nI (P i) := (congrFun (sI_cell (by decide)) i).trans (T i hi).2.1
    refine ⟨sI (sI M 23 7 2) 23 0 (nI (P i)), by rw [if_pos (nI_le (by omega) (by omega)), lt_def, e6, ag_n (by omega) (by omega), sb, e26, lt_def], ⟨fun a p _ _ => (sI_cell p).trans (sI_cell p), fun j _ => (congrFun (sI_cell t23.1) j).trans (congrFun (sI_cell t23.1) j), fun j p _ q => (sI_ix p).trans (sI_ix q), fun q _ => (congrFun (sI_cell t23.2.1) q).trans (congrFun (sI_cell t23.2.1) q), rfl⟩, fun z => absurd z h, fun _ => ⟨⟨(sI_ix (by decide)).trans sI_same, by omega, by omega⟩, sI_same, ⟨i, by omega, (sI_ix (by decide)).trans e6⟩, ⟨n, hn, (congrFun (sI_cell t23.1) 9).trans ((congrFun (sI_cell t23.1) 9).trans S.2.2.1)⟩, S.2.2.2⟩⟩
theorem c_goD {e p : Nat} (h : DD t e p M) : f_X6_pass M = some M := by
  unfold f_X6_pass
  rw [if_neg h.n0]
theorem c_failD {e p : Nat} {x : Int32} (h : DD t e p M) : f_X6_fail x M = some M := by
  unfold f_X6_fail
  rw [if_neg h.n0]
theorem c_fail {i n x : Nat} (ht : isT t) (T : tokC K P V N E M) (hi : i ≤ E) (hE : E ≤ 400) (S : PS t i n M) (hn : n ≤ 407) (hx : 0 < x) (hx2 : x < 10) : ∃ M', f_X6_fail (nI x) M = some M' ∧ PF t n M M' ∧ DD t x (P i) M' := by
  have t23 := isT_23 ht
  have e6 : (sI M 23 7 (nI x)).1 23 6 = nI i := (sI_ix (by decide)).trans S.2.1
  have e26 : (sI M 23 7 (nI x)).1 26 i = nI (P i) := (congrFun (sI_cell (by decide)) i).trans (T i hi).2.1
  unfold f_X6_fail
  refine ⟨sI (sI M 23 7 (nI x)) 23 0 (nI (P i)), by rw [S.1, if_pos rfl, lt_def, e6, ag_n (by omega) (by omega), sb, e26, lt_def], ⟨fun a p _ _ => (sI_cell p).trans (sI_cell p), fun j _ => (congrFun (sI_cell t23.1) j).trans (congrFun (sI_cell t23.1) j), fun j p _ q => (sI_ix p).trans (sI_ix q), fun q _ => (congrFun (sI_cell t23.2.1) q).trans (congrFun (sI_cell t23.2.1) q), rfl⟩, ⟨⟨(sI_ix (by decide)).trans sI_same, hx, hx2⟩, sI_same, ⟨i, by omega, (sI_ix (by decide)).trans e6⟩, ⟨n, hn, (congrFun (sI_cell t23.1) 9).trans ((congrFun (sI_cell t23.1) 9).trans S.2.2.1)⟩, S.2.2.2⟩⟩
theorem cm_inj : ∀ x, x < 43 → ∀ y, y < 43 → cmN x = cmN y → x = y := by decide +kernel
theorem c_kind {i n : Nat} (T : tokC K P V N E M) (hi : i ≤ E) (hE : E ≤ 400) (S : PS t i n M) : f_X6_kind M = some (nI (cmN (K i))) := by
  unfold f_X6_kind
  rw [S.2.1, ag_n (by omega) (by omega), sb, (T i hi).1]
theorem c_kindD {e p : Nat} (h : DD t e p M) : ∃ x, f_X6_kind M = some x := by
  obtain ⟨a, ha, h6⟩ := h.2.2.1
  unfold f_X6_kind
  rw [h6, ag_n (by omega) (by omega), sb]
  exact ⟨_, rfl⟩
theorem c_expD {e p : Nat} {x : Int32} (h : DD t e p M) : f_X6_expect x M = some M := by
  obtain ⟨y, hy⟩ := c_kindD h
  unfold f_X6_expect
  rw [hy, sb, c_goD h, sb, c_failD h, sb, ite_self]
/-- a token that must be there -/
theorem c_expect {i n k : Nat} (ht : isT t) (w : wfK K P V E) (T : tokC K P V N E M) (hi : i ≤ E) (S : PS t i n M) (hn : n ≤ 407) (hk : k < 43) : ∃ M', f_X6_expect (nI (cmN k)) M = some M' ∧ PF t n M M' ∧ (K i = k → i < 400 → PS t (i + 1) n M' ∧ M'.1 (t + 9) = M.1 (t + 9)) ∧ (K i = k → i = 400 → DD t 2 (P i) M') ∧ (K i ≠ k → DD t 1 (P i) M') := by
  have c1 := (cm_f (K i) (w.2.1 i hi).1).2.2
  have c2 := (cm_f k hk).2.2
  unfold f_X6_expect
  rw [c_kind T hi w.1 S, sb]
  by_cases e : K i = k
  · obtain ⟨M', e1, f1, a1, a2⟩ := c_go ht T hi w.1 S hn
    refine ⟨M', by rw [if_pos (by rw [e]), e1, sb], f1, fun _ h => a1 h, fun _ h => a2 h, fun z => absurd e z⟩
  · obtain ⟨M', e1, f1, d1⟩ := c_fail ht T hi w.1 S hn (x := 1) (by omega) (by omega)
    refine ⟨M', ?_, f1, fun z => absurd z e, fun z => absurd z e, fun _ => d1⟩
    rw [if_neg (fun z => e (cm_inj _ (w.2.1 i hi).1 _ hk (nI_inj (by omega) (by omega) z))), show f_X6_fail 1 M = some M' from e1, sb]
theorem cd_e {k a : Nat} (hk : k < 200) (ha : a < 16384) : (nI k <<< ((14 : Int32) &&& 31)) ||| nI a = nI (k * 16384 + a) := by
  have h : (((14 : Int32) &&& 31).toBitVec.smod 32).toNat = 14 := by decide
  rw [pk_shlN _ 14 h (by omega), or_n]
  have := Nat.two_pow_add_eq_or_of_lt (i := 14) (show a < 2 ^ 14 by omega) k
  rw [show k * 2 ^ 14 = 2 ^ 14 * k from Nat.mul_comm _ _, ← this, Nat.mul_comm]
theorem c_emit {i n k a : Nat} (ht : isT t) (S : PS t i n M) (hn : n < 407) (hk : k < 200) (ha : a < 16384) : ∃ M', f_X9_emit t (nI k) (nI a) M = some M' ∧ PF t n M M' ∧ PS t i (n + 1) M' ∧ M'.1 (t + 9) n = nI (k * 16384 + a) ∧ ∀ q, q ≠ n → M'.1 (t + 9) q = M.1 (t + 9) q := by
  have t23 := isT_23 ht
  have e9 : (sI M (t + 9) n (nI (k * 16384 + a))).1 t 9 = nI n := (congrFun (sI_cell (by omega)) 9).trans S.2.2.1
  refine ⟨sI (sI M (t + 9) n (nI (k * 16384 + a))) t 9 (nI (n + 1)), ?_, ⟨fun b _ q r => (sI_cell q).trans (sI_cell r), fun j q => (sI_ix q).trans (congrFun (sI_cell (by omega)) j), fun j _ _ _ => (congrFun (sI_cell (Ne.symm t23.1)) j).trans (congrFun (sI_cell (Ne.symm t23.2.1)) j), fun q hq => (congrFun (sI_cell (by omega)) q).trans (sI_ix (by omega)), rfl⟩, ⟨(congrFun (sI_cell (Ne.symm t23.1)) 7).trans ((congrFun (sI_cell (Ne.symm t23.2.1)) 7).trans S.1), (congrFun (sI_cell (Ne.symm t23.1)) 6).trans ((congrFun (sI_cell (Ne.symm t23.2.1)) 6).trans S.2.1), sI_same, S.2.2.2⟩, (congrFun (sI_cell (by omega)) n).trans sI_same, fun q hq => (congrFun (sI_cell (by omega)) q).trans (sI_ix hq)⟩
  unfold f_X9_emit
  rw [S.2.2.1, li 407, if_neg (nI_ge hn (by omega)), cd_e hk ha, pg_n hn (by omega), sb, e9, nI_1, lt_def]
theorem c_emitD {e p n : Nat} {x y : Int32} (ht : isT t) (h : DD t e p M) (hn : ∀ m, M.1 t 9 = nI m → m ≤ 407 → n ≤ m) : ∃ M', f_X9_emit t x y M = some M' ∧ PF t n M M' ∧ DD t e p M' ∧ ∀ m, M'.1 t 9 = nI m → m ≤ 407 → n ≤ m := by
  have t23 := isT_23 ht
  obtain ⟨d1, d2, ⟨a, ha, d3⟩, ⟨m, hm, d4⟩, d5⟩ := h
  have hnm := hn m d4 hm
  unfold f_X9_emit
  rw [d4, li 407]
  by_cases h7 : m < 407
  · have e9 : ∀ z, (sI M (t + 9) m z).1 t 9 = nI m := fun z => (congrFun (sI_cell (by omega)) 9).trans d4
    refine ⟨sI (sI M (t + 9) m ((x <<< ((14 : Int32) &&& 31)) ||| y)) t 9 (nI (m + 1)), by rw [if_neg (nI_ge h7 (by omega)), pg_n h7 (by omega), sb, e9, nI_1, lt_def], ⟨fun b _ q r => (sI_cell q).trans (sI_cell r), fun j q => (sI_ix q).trans (congrFun (sI_cell (by omega)) j), fun j _ _ _ => (congrFun (sI_cell (Ne.symm t23.1)) j).trans (congrFun (sI_cell (Ne.symm t23.2.1)) j), fun q hq => (congrFun (sI_cell (by omega)) q).trans (sI_ix (by omega)), rfl⟩, ⟨⟨(congrFun (sI_cell (Ne.symm t23.1)) 7).trans ((congrFun (sI_cell (Ne.symm t23.2.1)) 7).trans d1.1), d1.2⟩, (congrFun (sI_cell (Ne.symm t23.1)) 0).trans ((congrFun (sI_cell (Ne.symm t23.2.1)) 0).trans d2), ⟨a, ha, (congrFun (sI_cell (Ne.symm t23.1)) 6).trans ((congrFun (sI_cell (Ne.symm t23.2.1)) 6).trans d3)⟩, ⟨m + 1, by omega, sI_same⟩, d5⟩, fun m' e' h' => ?_⟩
    rw [sI_same] at e'
    have := nI_inj (by omega) (by omega) e'
    omega
  · exact ⟨M, by rw [if_pos (nI_le (by omega) (by omega))], PF.rf, ⟨d1, d2, ⟨a, ha, d3⟩, ⟨m, hm, d4⟩, d5⟩, hn⟩
end RDC

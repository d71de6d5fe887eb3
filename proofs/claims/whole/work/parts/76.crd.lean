-- 76.crd: pure: the class reads an expression
section CRD
variable {K V P : Nat → Nat} {N : Nat → Int64} {E t : Nat} {M M' : Mem}
/-- n pieces of code at least -/
def szG (t n : Nat) (M : Mem) : Prop := ∀ m, M.1 t 9 = nI m → m ≤ 407 → n ≤ m
theorem c_ruD {e p n d : Nat} {rv : Int32 → Int32 → Mem → Option Mem} {ru : Int32 → Mem → Option Mem} (ht : isT t) (D : DD t e p M) (g : szG t n M) : ∃ M', g_X6_readUnit rv ru (nI d) M = some M' ∧ PF t n M M' ∧ DD t e p M' ∧ szG t n M' := by
  obtain ⟨a, ha, h6⟩ := D.2.2.1
  obtain ⟨x, hx⟩ := c_kindD D
  unfold g_X6_readUnit
  rw [hx, sb]
  have fin : ∃ M', some M = some M' ∧ PF t n M M' ∧ DD t e p M' ∧ szG t n M' := ⟨M, rfl, PF.rf, D, g⟩
  by_cases h3 : x = 3
  · obtain ⟨M1, e1, f1, D1, g1⟩ := c_emitD (x := 0) (y := (M.2.1 27 a).toInt32) ht D g
    refine ⟨M1, ?_, f1, D1, g1⟩
    rw [if_pos h3, rT_n D.2.2.2.2 ht, sb, h6, aj_n (by omega) (by omega), sb, e1, sb, c_goD D1, sb]
  · rw [if_neg h3, if_neg D.n0, c_failD D, sb, c_failD D, sb]
    by_cases h142 : x < 142
    · rw [if_pos h142, ite_self, ite_self]
      exact fin
    · rw [if_neg h142]
      by_cases h150 : (150 : Int32) < x
      · rw [if_pos h150, ite_self, ite_self]
        exact fin
      · obtain ⟨M1, e1, f1, D1, g1⟩ := c_emitD (x := 1) (y := x - 142) ht D g
        refine ⟨M1, ?_, f1, D1, g1⟩
        rw [if_neg h150, rT_n D.2.2.2.2 ht, sb, e1, sb, c_goD D1, sb]
theorem c_rdD (ht : isT t) : ∀ (q lv d : Nat) (M : Mem) (e p n : Nat), lv ≤ 2 → 4 - lv ≤ q → DD t e p M → szG t n M → ∃ M', (n_X6_rv q).1 (nI lv) (nI d) M = some M' ∧ PF t n M M' ∧ DD t e p M' ∧ szG t n M'
  | 0, lv, d, M, e, p, n, hlv, hq, D, g => absurd hq (by omega)
  | q + 1, lv, d, M, e, p, n, hlv, hq, D, g => by
    show ∃ M', g_X6_readValue (n_X6_rv q).1 (n_X6_rv q).2 (nI lv) (nI d) M = some M' ∧ _
    unfold g_X6_readValue
    rw [li 2]
    by_cases h2 : lv < 2
    · obtain ⟨M1, e1, f1, D1, g1⟩ := c_rdD ht q (lv + 1) d M e p n (by omega) (by omega) D g
      refine ⟨M1, ?_, f1, D1, g1⟩
      rw [if_pos (nI_lt' h2 (by omega)), nI_1, e1, sb, show FU = 999999 + 1 from rfl, f_X6_readValue_L21, if_neg (show ¬ (401 : Int32) ≤ 0 by decide), if_neg D1.n0, sb]
    · obtain ⟨r, rfl⟩ : ∃ r, q = r + 1 := ⟨q - 1, by omega⟩
      obtain ⟨M1, e1, f1, D1, g1⟩ := c_ruD (rv := (n_X6_rv r).1) (ru := (n_X6_rv r).2) (d := d) ht D g
      refine ⟨M1, ?_, f1, D1, g1⟩
      rw [if_neg (nI_nlt' (nI_le (by omega) (by omega))), show (n_X6_rv (r + 1)).2 (nI d) M = some M1 from e1, sb]
/-- what has come out -/
def OC (K P : Nat → Nat) (E t i n : Nat) (M' : Mem) : Except (Nat × Nat) (List (Nat × Nat) × Nat) → Prop
  | .ok r => PS t r.2 (n + r.1.length) M' ∧ CD t M' n r.1 ∧ i < r.2 ∧ r.2 ≤ E ∧ i + r.1.length ≤ r.2
  | .error x => (x.1 = 1 ∨ x.1 = 2) ∧ x.2 ≤ E ∧ DD t x.1 (P x.2) M' ∧ szG t n M'
theorem PS.sz {i n : Nat} (S : PS t i n M) (hn : n ≤ 407) : szG t n M := fun m e h => by
  rw [S.2.2.1] at e
  have := nI_inj (by omega) (by omega) e
  omega
theorem lv_f : ∀ k, k < 43 → f_X6_levelOf (nI (cmN k)) = some (if lvK k = 0 then 0 else if lvK k = 1 then 1 else -1) := by decide +kernel
theorem op_f : ∀ k, k < 43 → lvK k < 2 → cmN k = ccN (opK k) ∧ opK k < 6 ∧ k ≠ 0 ∧ k ≠ 3 := by decide +kernel
theorem lvK_2 (k : Nat) : lvK k ≤ 2 := by
  unfold lvK
  split
  · omega
  · split <;> omega
theorem c_loop {lv d i0 n f : Nat} {rv : Int32 → Int32 → Mem → Option Mem} {ru : Int32 → Mem → Option Mem} (ht : isT t) (w : wfK K P V E) (hlv : lv < 2) (hrv : ∀ i n M, i ≤ E → tokC K P V N E M → PS t i n M → n ≤ 6 + i → ∃ M', rv (nI (lv + 1)) (nI d) M = some M' ∧ PF t n M M' ∧ OC K P E t i n M' (rdG K V f (lv + 1) d i)) (hrvD : ∀ e p n M, DD t e p M → szG t n M → ∃ M', rv (nI (lv + 1)) (nI d) M = some M' ∧ PF t n M M' ∧ DD t e p M' ∧ szG t n M') : ∀ (m fu : Nat) (c : List (Nat × Nat)) (j : Nat) (M : Mem), m ≤ 401 → m < fu → j ≤ E → i0 < j → tokC K P V N E M → PS t j (n + c.length) M → CD t M n c → n ≤ 6 + i0 ∧ i0 + c.length ≤ j → ∃ M', f_X6_readValue_L21 rv ru fu (nI lv) (nI d) (nI (401 - m)) M = some M' ∧ PF t n M M' ∧ OC K P E t i0 n M' (rdL K (rdG K V f (lv + 1) d) lv m c j)
  | 0, fu, c, j, M, hm, hf, hj, hij, T, S, C, hn => by
    obtain ⟨q, rfl⟩ : ∃ q, fu = q + 1 := ⟨fu - 1, by omega⟩
    refine ⟨M, ?_, PF.rf, S, C, hij, hj, hn.2⟩
    rw [f_X6_readValue_L21, li 401, if_pos (nI_le (by omega) (by omega))]
  | m + 1, fu, c, j, M, hm, hf, hj, hij, T, S, C, hn => by
    obtain ⟨q, rfl⟩ : ∃ q, fu = q + 1 := ⟨fu - 1, by omega⟩
    have hE := w.1
    have hK := (w.2.1 j hj).1
    have cK := (cm_f (K j) hK).2.2
    rw [f_X6_readValue_L21, li 401, if_neg (nI_ge (by omega) (by omega)), S.1, if_pos rfl, c_kind T hj hE S, sb, sb, lv_f _ hK, sb]
    unfold rdL
    by_cases hl : lvK (K j) = lv
    · obtain ⟨o1, o2, o3, o4⟩ := op_f (K j) hK (by omega)
      have evl : (if lvK (K j) = 0 then (0 : Int32) else if lvK (K j) = 1 then 1 else -1) = nI lv := by
        rw [hl]
        rcases (by omega : lv = 0 ∨ lv = 1) with e | e <;> subst e <;> rfl
      rw [evl, if_pos rfl, if_pos hl]
      obtain ⟨M1, e1, f1, a1, a2⟩ := c_go ht T hj hE S (by omega)
      rw [e1, sb, nI_1]
      by_cases h4 : j < 400
      · obtain ⟨S1, k1⟩ := a1 h4
        rw [if_pos h4]
        have hj1 := w.nx hj o3 o4 h4
        obtain ⟨M2, e2, f2, O2⟩ := hrv (j + 1) (n + c.length) M1 hj1 (T.pf ht f1) S1 (by omega)
        rw [e2, sb]
        have F2 : PF t (n + c.length) M M2 := f1.tr f2 (Nat.le_refl _)
        cases hr : rdG K V f (lv + 1) d (j + 1) with
        | error x =>
          rw [hr] at O2
          obtain ⟨x1, x2, x3, x4⟩ := O2
          obtain ⟨M3, e3, f3, D3, g3⟩ := c_emitD (x := nI (cmN (K j))) (y := 0) ht x3 x4
          refine ⟨M3, ?_, (F2.tr f3 (Nat.le_refl _)).tr PF.rf (Nat.le_refl _) |> fun h => ⟨h.1, h.2.1, h.2.2.1, fun q hq => h.2.2.2.1 q (by omega), h.2.2.2.2⟩, x1, x2, D3, fun m e h => ?_⟩
          · rw [rT_n x3.2.2.2.2 ht, sb, e3, sb]
            obtain ⟨z, rfl⟩ : ∃ z, q = z + 1 := ⟨q - 1, by omega⟩
            rw [lt_def, f_X6_readValue_L21]
            by_cases hz : (401 : Int32) ≤ nI (401 - (m + 1)) + 1
            · rw [if_pos hz]
            · rw [if_neg hz, if_neg D3.n0]
          · have := g3 m e h; omega
        | ok r =>
          rw [hr] at O2
          obtain ⟨y1, y2, y3, y4, y5⟩ := O2
          obtain ⟨M3, e3, f3, S3, d3, o3'⟩ := c_emit (k := cmN (K j)) (a := 0) ht y1 (by omega) cK (by omega)
          have F3 : PF t n M M3 := (F2.tr f3 (by omega)) |> fun h => ⟨h.1, h.2.1, h.2.2.1, fun q hq => h.2.2.2.1 q (by omega), h.2.2.2.2⟩
          have len1 : (c ++ (r.1 ++ [(opK (K j), 0)])).length = c.length + r.1.length + 1 := by simp; omega
          have C3 : CD t M3 n (c ++ (r.1 ++ [(opK (K j), 0)])) := by
            refine CD.app (C.of (fun q q1 q2 => (o3' q (by omega)).trans (F2.2.2.2.1 q (by omega)))) (CD.app (y2.of (fun q q1 q2 => o3' q (by omega))) ⟨?_, trivial⟩)
            rw [d3]
            show nI (cmN (K j) * 16384 + 0) = nI (ccN (opK (K j)) * 16384 + 0)
            rw [o1]
          obtain ⟨M4, e4, f4, O4⟩ := c_loop (i0 := i0) ht w hlv hrv hrvD m q (c ++ (r.1 ++ [(opK (K j), 0)])) r.2 M3 (by omega) (by omega) y4 (by omega) ((T.pf ht F2).pf ht f3) (by rw [len1, show n + (c.length + r.1.length + 1) = n + c.length + r.1.length + 1 by omega]; exact S3) C3 ⟨hn.1, by rw [len1]; omega⟩
          refine ⟨M4, ?_, F3.tr f4 (Nat.le_refl _), O4⟩
          rw [rT_n y1.2.2.2 ht, sb, show f_X9_emit t (nI (cmN (K j))) 0 M2 = some M3 from e3, sb, lt_def, nI_1, show 401 - (m + 1) + 1 = 401 - m by omega]
          exact e4
      · rw [if_neg h4]
        have D1 := a2 (by omega)
        have g1 : szG t (n + c.length) M1 := fun m' e' h' => by
          obtain ⟨-, -, -, ⟨m2, hm2, d4⟩, -⟩ := D1
          have : M1.1 t 9 = nI (n + c.length) := by
            unfold f_X6_pass at e1
            rw [S.1, if_pos rfl, S.2.1, li 400, if_pos (nI_le (by omega) (by omega)), lt_def] at e1
            have e6 : (sI M 23 7 2).1 23 6 = nI j := (sI_ix (by decide)).trans S.2.1
            rw [e6, ag_n (by omega) (by omega), sb, lt_def] at e1
            cases e1
            have t23 := isT_23 ht
            exact (congrFun (sI_cell t23.1) 9).trans ((congrFun (sI_cell t23.1) 9).trans S.2.2.1)
          rw [this] at e'
          have := nI_inj (by omega) (by omega) e'
          omega
        obtain ⟨M2, e2, f2, D2, g2⟩ := hrvD 2 (P j) (n + c.length) M1 D1 g1
        obtain ⟨M3, e3, f3, D3, g3⟩ := c_emitD (x := nI (cmN (K j))) (y := 0) ht D2 g2
        have F3 := (f1.tr f2 (Nat.le_refl _)).tr f3 (Nat.le_refl _)
        refine ⟨M3, ?_, ⟨F3.1, F3.2.1, F3.2.2.1, fun q hq => F3.2.2.2.1 q (by omega), F3.2.2.2.2⟩, Or.inr rfl, hj, D3, fun m e h => by have := g3 m e h; omega⟩
        rw [e2, sb, rT_n D2.2.2.2.2 ht, sb, e3, sb]
        obtain ⟨z, rfl⟩ : ∃ z, q = z + 1 := ⟨q - 1, by omega⟩
        rw [lt_def, f_X6_readValue_L21]
        by_cases hz : (401 : Int32) ≤ nI (401 - (m + 1)) + 1
        · rw [if_pos hz]
        · rw [if_neg hz, if_neg D3.n0]
    · rw [if_neg hl]
      have hne : ¬ (if lvK (K j) = 0 then (0 : Int32) else if lvK (K j) = 1 then 1 else -1) = nI lv := by
        have := lvK_2 (K j)
        rcases (by omega : lv = 0 ∨ lv = 1) with e | e <;> subst e <;> rcases (by omega : lvK (K j) = 0 ∨ lvK (K j) = 1 ∨ lvK (K j) = 2) with q | q | q <;> rw [q] <;> first | decide | (exact absurd q hl)
      rw [if_neg hne]
      exact ⟨M, rfl, PF.rf, S, C, hij, hj, hn.2⟩
end CRD

-- 88.claw2: pure: the class reads a law
section CLAX
variable {K V P : Nat → Nat} {N : Nat → Int64} {E t : Nat} {M M' : Mem}
def LO (K P : Nat → Nat) (E t i n : Nat) (M' : Mem) (res : Except (Nat × Nat) (List (Cd × Cd × Cd) × Cd × Nat)) : Prop := (∀ r, res = .ok r → PS t r.2.2 (n + lwZ r.1 r.2.1) M' ∧ LC0 t M' n r.1 r.2.1 ∧ i < r.2.2 ∧ r.2.2 ≤ E ∧ i + lwZ r.1 r.2.1 ≤ r.2.2 + 1) ∧ ∀ x, res = .error x → DZ t x.1 (P x.2) n M' ∧ x.2 ≤ E
theorem LO.er {i n : Nat} {x : Nat × Nat} {res : Except (Nat × Nat) (List (Cd × Cd × Cd) × Cd × Nat)} (e : res = .error x) (D : DZ t x.1 (P x.2) n M') (h : x.2 ≤ E) : LO K P E t i n M' res := ⟨fun r h' => (by rw [e] at h'; cases h'), fun y h' => (by rw [e] at h'; cases h'; exact ⟨D, h⟩)⟩
theorem c_lastW {i n fu : Nat} {l2 : Int32} (ht : isT t) (w : wfK K P V E) (T : tokC K P V N E M) (hi : i ≤ E) (S : PS t i n M) (hn : n + 1 ≤ 6 + i) (h : f_X6_readLaw_L43 fu l2 M = some M) : ∃ M', cLw fu l2 M = some M' ∧ PF t n M M' ∧ LO K P E t i n M' ((rdG K V 21 0 0 i).bind fun w => .ok ([], w.1, w.2)) := by
  have hE := w.1
  obtain ⟨M1, e1, f1, a1, a2⟩ := rvX ht w T hi S (by omega)
  cases hr : rdG K V 21 0 0 i with
  | error x =>
    obtain ⟨D1, hx⟩ := a2 x hr
    obtain ⟨M2, e2, f2, D2, g2⟩ := c_emitD (x := 3) (y := 0) ht D1.1 D1.2
    exact ⟨M2, by unfold cLw; rw [h, sb, e1, sb, rT_n D1.1.2.2.2.2 ht, sb, e2, sb], f1.tr f2 (Nat.le_refl _), LO.er rfl ⟨D2, g2⟩ hx⟩
  | ok r =>
    obtain ⟨S1, C1, b1, b2, b3⟩ := a1 r hr
    obtain ⟨M2, e2, f2, S2, d2, o2⟩ := c_emit (k := 3) (a := 0) ht S1 (by omega) (by omega) (by omega)
    refine ⟨M2, by unfold cLw; rw [h, sb, e1, sb, rT_n S1.2.2.2 ht, sb, show f_X9_emit t 3 0 M1 = some M2 from e2, sb], f1.tr f2 (by omega), fun y hy => ?_, fun x hx => by cases hx⟩
    cases hy
    exact ⟨S2, ⟨C1.of (fun q _ q2 => o2 q (by omega)), d2⟩, b1, b2, by show i + (r.1.length + 1) ≤ r.2 + 1; omega⟩
theorem or_15 {a : Nat} (h : a < 32768) : (32768 : Int32) ||| nI a = nI (2 * 16384 + a) := by
  have := Nat.two_pow_add_eq_or_of_lt (i := 15) (show a < 2 ^ 15 by omega) 1
  rw [show (32768 : Int32) = nI (2 ^ 15 * 1) from rfl, or_n, ← this]
theorem c_lawB (ht : isT t) (w : wfK K P V E) : ∀ (m fu i n : Nat) (M : Mem), m ≤ 4 → m + 2 < fu → i ≤ E → tokC K P V N E M → PS t i n M → n + 1 ≤ 6 + i → ∃ M', cLw fu (nI (4 - m)) M = some M' ∧ PF t n M M' ∧ LO K P E t i n M' (lwG K V m i)
  | 0, fu, i, n, M, hm, hf, hi, T, S, hn => by
    have hE := w.1
    obtain ⟨z, rfl⟩ : ∃ z, fu = z + 1 + 1 := ⟨fu - 2, by omega⟩
    unfold lwG
    by_cases k31 : K i = 31
    · rw [if_pos k31]
      obtain ⟨M1, e1, f1, D1⟩ := c_fail (x := 2) ht T hi hE S (by omega) (by omega) (by omega)
      have Z1 : DZ t 2 (P i) n M1 := ⟨D1, szG_of ((congrFun (fail9 ht e1) 9).trans S.2.2.1) (by omega) (Nat.le_refl _)⟩
      obtain ⟨M2, e2, f2, D2⟩ := s3D (l2 := nI (4 - 0)) (fu := z) ht Z1
      have L : f_X6_readLaw_L43 (z + 1 + 1) (nI (4 - 0)) M = some M2 := by
        rw [f_X6_readLaw_L43, if_neg (show ¬ (4 : Int32) < nI (4 - 0) by decide), S.1, if_pos rfl, c_kind T hi hE S, sb, k31, if_pos (show nI (cmN 31) = 139 from rfl), if_pos (show nI (4 - 0) = 4 from rfl), show f_X6_fail 2 M = some M1 from e1, sb, sb, c_goD D1, sb]
        exact e2
      obtain ⟨M3, e3, f3, D3⟩ := lw_e ht L D2
      exact ⟨M3, e3, (f1.tr f2 (Nat.le_refl _)).tr f3 (Nat.le_refl _), LO.er rfl D3 hi⟩
    · rw [if_neg k31]
      refine c_lastW ht w T hi S hn ?_
      rw [f_X6_readLaw_L43, if_neg (show ¬ (4 : Int32) < nI (4 - 0) by decide), S.1, if_pos rfl, c_kind T hi hE S, sb, if_neg (fun q => k31 (cm_inj _ (w.2.1 i hi).1 31 (by omega) (nI_inj (by have := (cm_f (K i) (w.2.1 i hi).1).2.2; omega) (by decide) (q.trans (show (139 : Int32) = nI (cmN 31) from rfl)))))]
  | m + 1, fu, i, n, M, hm, hf, hi, T, S, hn => by
    have hE := w.1
    obtain ⟨z, rfl⟩ : ∃ z, fu = z + 1 + 1 := ⟨fu - 2, by omega⟩
    have l4 : ¬ (4 : Int32) < nI (4 - (m + 1)) := nI_nlt (b := 4 - (m + 1)) (a := 4) (by omega) (by omega)
    have l5 : ¬ nI (4 - (m + 1)) = 4 := fun q => by
      have := nI_inj (b := 4) (by omega) (by omega) q
      omega
    unfold lwG
    by_cases k31 : K i = 31
    · rw [if_pos k31]
      obtain ⟨M1, e1, f1, p1, p2⟩ := c_go ht T hi hE S (by omega)
      have T1 := T.pf ht f1
      have z1 : szG t n M1 := szG_of ((congrFun (pass9 ht e1) 9).trans S.2.2.1) (by omega) (Nat.le_refl _)
      have L : f_X6_readLaw_L43 (z + 1 + 1) (nI (4 - (m + 1))) M = cS3 (nI (4 - (m + 1))) (z + 1) M1 := by
        rw [f_X6_readLaw_L43, if_neg l4, S.1, if_pos rfl, c_kind T hi hE S, sb, k31, if_pos (show nI (cmN 31) = 139 from rfl), if_neg l5, sb, e1, sb]
        rfl
      -- a dead end
      have dead : ∀ {x : Nat × Nat} {Mx : Mem} {res : Except (Nat × Nat) (List (Cd × Cd × Cd) × Cd × Nat)}, res = .error x → cS3 (nI (4 - (m + 1))) (z + 1) M1 = some Mx → PF t n M Mx → DZ t x.1 (P x.2) n Mx → x.2 ≤ E → ∃ M', cLw (z + 1 + 1) (nI (4 - (m + 1))) M = some M' ∧ PF t n M M' ∧ LO K P E t i n M' res := fun {x Mx res} er c f D hx => by
        obtain ⟨M3, e3, f3, D3⟩ := lw_e ht (L.trans c) D
        exact ⟨M3, e3, f.tr f3 (Nat.le_refl _), LO.er er D3 hx⟩
      unfold exK
      rw [if_pos k31]
      by_cases h4 : i < 400
      · obtain ⟨S1, q1⟩ := p1 h4
        rw [if_pos h4]
        have hi1 := w.nx hi (by omega) (by omega) h4
        obtain ⟨M2, e2, f2, a1, a2⟩ := rvX ht w T1 hi1 S1 (by omega)
        have F2 := f1.tr f2 (Nat.le_refl _)
        have T2 := T.pf ht F2
        show ∃ M', cLw (z + 1 + 1) (nI (4 - (m + 1))) M = some M' ∧ PF t n M M' ∧ LO K P E t i n M' ((rdG K V 21 0 0 (i + 1)).bind _)
        cases hra : rdG K V 21 0 0 (i + 1) with
        | error x =>
          obtain ⟨D2, hx⟩ := a2 x hra
          obtain ⟨Mx, ex, fx, Dx⟩ := s4D (l2 := nI (4 - (m + 1))) (fu := z) ht D2
          exact dead rfl (by unfold cS3; rw [e2, sb, ex]) (F2.tr fx (Nat.le_refl _)) Dx hx
        | ok a =>
          obtain ⟨S2, C2, c1, c2, c3⟩ := a1 a hra
          obtain ⟨M3, e3, f3, b1, b2⟩ := ceX (k := 13) ht w T2 c2 S2 (by omega) (by omega) (by omega) (by omega)
          have F3 := F2.tr f3 (by omega)
          have T3 := T.pf ht F3
          show ∃ M', cLw (z + 1 + 1) (nI (4 - (m + 1))) M = some M' ∧ PF t n M M' ∧ LO K P E t i n M' ((exK K 13 a.2).bind _)
          cases hx2 : exK K 13 a.2 with
          | error x =>
            obtain ⟨D3, hx⟩ := b2 x hx2
            have D3' : DZ t x.1 (P x.2) n M3 := ⟨D3.1, fun m' e' h' => by have := D3.2 m' e' h'; omega⟩
            obtain ⟨My, ey, fy, Dy⟩ := rvD ht D3'
            obtain ⟨Mx, ex, fx, Dx⟩ := s5D (l2 := nI (4 - (m + 1))) (fu := z) ht Dy
            exact dead rfl (by unfold cS3 cS4; rw [e2, sb, show f_X6_expect 60 M2 = some M3 from e3, sb, ey, sb, ex]) ((F3.tr fy (Nat.le_refl _)).tr fx (Nat.le_refl _)) Dx hx
          | ok i2 =>
            obtain ⟨rfl, hi2, S3, q3⟩ := b1 i2 hx2
            obtain ⟨M4, e4, f4, a3, a4⟩ := rvX ht w T3 hi2 S3 (by omega)
            have F4 := F3.tr f4 (by omega)
            have T4 := T.pf ht F4
            show ∃ M', cLw (z + 1 + 1) (nI (4 - (m + 1))) M = some M' ∧ PF t n M M' ∧ LO K P E t i n M' ((rdG K V 21 0 0 (a.2 + 1)).bind _)
            have R4 : ∀ Mx, cS5 (nI (4 - (m + 1))) (z + 1) M4 = Mx → cS3 (nI (4 - (m + 1))) (z + 1) M1 = Mx := fun Mx h => by
              unfold cS3 cS4
              rw [e2, sb, show f_X6_expect 60 M2 = some M3 from e3, sb, e4, sb, h]
            cases hrb : rdG K V 21 0 0 (a.2 + 1) with
            | error x =>
              obtain ⟨D4, hx⟩ := a4 x hrb
              have D4' : DZ t x.1 (P x.2) n M4 := ⟨D4.1, fun m' e' h' => by have := D4.2 m' e' h'; omega⟩
              obtain ⟨Mx, ex, fx, Dx⟩ := s5D (l2 := nI (4 - (m + 1))) (fu := z) ht D4'
              exact dead rfl (R4 _ ex) (F4.tr fx (Nat.le_refl _)) Dx hx
            | ok b =>
              obtain ⟨S4, C4, d1, d2, d3⟩ := a3 b hrb
              obtain ⟨M5, e5, f5, b3, b4⟩ := ceX (k := 32) ht w T4 d2 S4 (by omega) (by omega) (by omega) (by omega)
              have F5 := F4.tr f5 (by omega)
              have T5 := T.pf ht F5
              show ∃ M', cLw (z + 1 + 1) (nI (4 - (m + 1))) M = some M' ∧ PF t n M M' ∧ LO K P E t i n M' ((exK K 32 b.2).bind _)
              cases hx3 : exK K 32 b.2 with
              | error x =>
                obtain ⟨D5, hx⟩ := b4 x hx3
                have D5' : DZ t x.1 (P x.2) n M5 := ⟨D5.1, fun m' e' h' => by have := D5.2 m' e' h'; omega⟩
                obtain ⟨My, ey, fy, Dy, gy⟩ := c_emitD (x := 2) (y := 0) ht D5'.1 D5'.2
                obtain ⟨mm, hm', h9⟩ := D5'.1.2.2.2.1
                obtain ⟨Mx, ex, fx, Dx⟩ := s6D (l2 := nI (4 - (m + 1))) (fu := z) ht ⟨Dy, gy⟩ h9 hm' (D5'.2 mm h9 hm')
                exact dead rfl (R4 _ (by unfold cS5; rw [show f_X6_expect 140 M4 = some M5 from e5, sb, rT_n D5.1.2.2.2.2 ht, sb, lt_def, sb, ey, sb, ex])) ((F5.tr fy (Nat.le_refl _)).tr fx (Nat.le_refl _)) Dx hx
              | ok i3 =>
                obtain ⟨rfl, hi3, S5, q5⟩ := b3 i3 hx3
                obtain ⟨M6, e6, f6, S6, w6, o6⟩ := c_emit (k := 2) (a := 0) ht S5 (by omega) (by omega) (by omega)
                have F6 := F5.tr f6 (by omega)
                have T6 := T.pf ht F6
                have R6 : ∀ Mx, cS6 (nI (n + a.1.length + b.1.length)) (nI (4 - (m + 1))) (z + 1) M6 = Mx → cS3 (nI (4 - (m + 1))) (z + 1) M1 = Mx := fun Mx h => R4 _ (by
                  unfold cS5
                  rw [show f_X6_expect 140 M4 = some M5 from e5, sb, rT_n S5.2.2.2 ht, sb, lt_def, sb, S5.2.2.1, show f_X9_emit t 2 0 M5 = some M6 from e6, sb, h])
                obtain ⟨M7, e7, f7, a5, a6⟩ := rvX ht w T6 hi3 S6 (by omega)
                have F7 := F6.tr f7 (by omega)
                have T7 := T.pf ht F7
                show ∃ M', cLw (z + 1 + 1) (nI (4 - (m + 1))) M = some M' ∧ PF t n M M' ∧ LO K P E t i n M' ((rdG K V 21 0 0 (b.2 + 1)).bind _)
                cases hrc : rdG K V 21 0 0 (b.2 + 1) with
                | error x =>
                  obtain ⟨D7, hx⟩ := a6 x hrc
                  have D7' : DZ t x.1 (P x.2) n M7 := ⟨D7.1, fun m' e' h' => by have := D7.2 m' e' h'; omega⟩
                  obtain ⟨Mx, ex, fx, Dx⟩ := s7D (l2 := nI (4 - (m + 1))) (fu := z) (m := n + a.1.length + b.1.length) ht D7' rfl (by omega) (by omega)
                  exact dead rfl (R6 _ (by unfold cS6; rw [e7, sb, c_expD D7.1, sb, ex])) (F7.tr fx (Nat.le_refl _)) Dx hx
                | ok c =>
                  obtain ⟨S7, C7, g1, g2, g3⟩ := a5 c hrc
                  obtain ⟨M8, e8, f8, b5, b6⟩ := ceX (k := 33) ht w T7 g2 S7 (by omega) (by omega) (by omega) (by omega)
                  have F8 := F7.tr f8 (by omega)
                  have T8 := T.pf ht F8
                  show ∃ M', cLw (z + 1 + 1) (nI (4 - (m + 1))) M = some M' ∧ PF t n M M' ∧ LO K P E t i n M' ((exK K 33 c.2).bind _)
                  cases hx4 : exK K 33 c.2 with
                  | error x =>
                    obtain ⟨D8, hx⟩ := b6 x hx4
                    have D8' : DZ t x.1 (P x.2) n M8 := ⟨D8.1, fun m' e' h' => by have := D8.2 m' e' h'; omega⟩
                    obtain ⟨Mx, ex, fx, Dx⟩ := s7D (l2 := nI (4 - (m + 1))) (fu := z) (m := n + a.1.length + b.1.length) ht D8' rfl (by omega) (by omega)
                    exact dead rfl (R6 _ (by unfold cS6; rw [e7, sb, show f_X6_expect 141 M7 = some M8 from e8, sb, ex])) (F8.tr fx (Nat.le_refl _)) Dx hx
                  | ok i4 =>
                    obtain ⟨rfl, hi4, S8, q8⟩ := b5 i4 hx4
                    obtain ⟨M9, e9, f9, S9, w9, o9⟩ := c_emit (k := 3) (a := 0) ht S8 (by omega) (by omega) (by omega)
                    have F9 := F8.tr f9 (by omega)
                    have t23 := isT_23 ht
                    let M10 := sI M9 (t + 9) (n + a.1.length + b.1.length) ((32768 : Int32) ||| (M9.1 t 9))
                    have f10 : PF t n M9 M10 := aim_pf ht (by omega)
                    have F10 := F9.tr f10 (Nat.le_refl _)
                    have S10 : PS t (c.2 + 1) (n + a.1.length + b.1.length + 1 + c.1.length + 1) M10 := ⟨(congrFun (sI_cell (Ne.symm t23.2.1)) 7).trans S9.1, (congrFun (sI_cell (Ne.symm t23.2.1)) 6).trans S9.2.1, (congrFun (sI_cell (by omega)) 9).trans S9.2.2.1, S9.2.2.2⟩
                    obtain ⟨M', e', f', L'⟩ := c_lawB ht w m (z + 1) (c.2 + 1) (n + a.1.length + b.1.length + 1 + c.1.length + 1) M10 (by omega) (by omega) hi4 (T.pf ht F10) S10 (by omega)
                    have run : cLw (z + 1 + 1) (nI (4 - (m + 1))) M = some M' := by
                      rw [← e']
                      unfold cLw
                      rw [L, R6 _ rfl]
                      unfold cS6
                      rw [e7, sb, show f_X6_expect 141 M7 = some M8 from e8, sb]
                      unfold cS7
                      rw [rT_n S8.2.2.2 ht, sb, show f_X9_emit t 3 0 M8 = some M9 from e9, sb, rT_n S9.2.2.2 ht, sb, aim_n rfl (by omega), if_pos (by omega), sb, nI_1, lt_def, show 4 - (m + 1) + 1 = 4 - m by omega]
                    refine ⟨M', run, F10.tr f' (by omega), ?_⟩
                    show LO K P E t i n M' ((lwG K V m (c.2 + 1)).bind _)
                    cases hl : lwG K V m (c.2 + 1) with
                    | error x =>
                      obtain ⟨D', hx⟩ := L'.2 x hl
                      exact LO.er rfl ⟨D'.1, fun m' e' h' => by have := D'.2 m' e' h'; omega⟩ hx
                    | ok r =>
                      obtain ⟨S', C', j1, j2, j3⟩ := L'.1 r hl
                      refine ⟨fun y hy => ?_, fun x hx => by cases hx⟩
                      cases hy
                      have A1 : ∀ q, q < n + a.1.length + b.1.length + 1 + c.1.length → q ≠ n + a.1.length + b.1.length → M'.1 (t + 9) q = M7.1 (t + 9) q := fun q x1 x2 => (f'.2.2.2.1 q (by omega)).trans ((sI_ix x2).trans ((o9 q (by omega)).trans (congrFun q8 q)))
                      have A2 : ∀ q, q < n + a.1.length + b.1.length → M'.1 (t + 9) q = M4.1 (t + 9) q := fun q x1 => (A1 q (by omega) (by omega)).trans ((f7.2.2.2.1 q (by omega)).trans ((o6 q (by omega)).trans (congrFun q5 q)))
                      have A3 : ∀ q, q < n + a.1.length → M'.1 (t + 9) q = M2.1 (t + 9) q := fun q x1 => (A2 q (by omega)).trans ((f4.2.2.2.1 q (by omega)).trans (congrFun q3 q))
                      refine ⟨?_, ⟨C2.of (fun q _ x => A3 q x), C4.of (fun q _ x => A2 q x), ?_, C7.of (fun q x1 x2 => A1 q (by omega) (by omega)), ?_, C'⟩, by show i < r.2.2; omega, j2, ?_⟩
                      · show PS t r.2.2 (n + (a.1.length + b.1.length + c.1.length + 2 + lwZ r.1 r.2.1)) M'
                        rw [show n + (a.1.length + b.1.length + c.1.length + 2 + lwZ r.1 r.2.1) = n + a.1.length + b.1.length + 1 + c.1.length + 1 + lwZ r.1 r.2.1 by omega]
                        exact S'
                      · show M'.1 (t + 9) (n + a.1.length + b.1.length) = nI (2 * 16384 + (n + a.1.length + b.1.length + 1 + c.1.length + 1))
                        refine (f'.2.2.2.1 _ (by omega)).trans (sI_same.trans ?_)
                        rw [S9.2.2.1, or_15 (by omega)]
                      · show M'.1 (t + 9) (n + a.1.length + b.1.length + 1 + c.1.length) = nI (3 * 16384 + 0)
                        exact (f'.2.2.2.1 _ (by omega)).trans ((sI_ix (by omega)).trans w9)
                      · show i + (a.1.length + b.1.length + c.1.length + 2 + lwZ r.1 r.2.1) ≤ r.2.2 + 1
                        omega
      · rw [if_neg h4]
        have D1 : DZ t 2 (P i) n M1 := ⟨p2 (by omega), z1⟩
        obtain ⟨Mx, ex, fx, Dx⟩ := s3D (l2 := nI (4 - (m + 1))) (fu := z) ht D1
        exact dead (x := (2, i)) rfl ex (f1.tr fx (Nat.le_refl _)) Dx hi
    · rw [if_neg k31]
      refine c_lastW ht w T hi S hn ?_
      rw [f_X6_readLaw_L43, if_neg l4, S.1, if_pos rfl, c_kind T hi hE S, sb, if_neg (fun q => k31 (cm_inj _ (w.2.1 i hi).1 31 (by omega) (nI_inj (by have := (cm_f (K i) (w.2.1 i hi).1).2.2; omega) (by decide) (q.trans (show (139 : Int32) = nI (cmN 31) from rfl)))))]
end CLAX

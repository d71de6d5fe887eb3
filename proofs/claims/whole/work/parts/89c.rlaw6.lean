-- 89c.rlaw6: pure: the reference reads a law, the branches
section RLD
variable {K V P : Nat → Nat} {N : Nat → Int64} {E v x : Nat} {M M' : Mem}
theorem r_lawB {v3 : Int32} (w : wfK K P V E) (hv : v ≤ 1) (hx : x < 4) : ∀ (m fu i g n : Nat) (M : Mem), m ≤ 4 → m + 2 < fu → i ≤ E → tokM K P V N E M → GS i g n M → M.1 67 19 = nI v → n ≤ 420 * v + i → 420 * v ≤ n → 130 * v ≤ g → 4 * g + 2 ≤ 4 * (130 * v) + i → ∃ M', f_X12_tellLaw_L12 (rKF (nI x) v3) fu (nI x) v3 (nI (4 - m)) M = some M' ∧ QL v x g n M M' ∧ LT K P E v x i g n v3 M' (lwT K V m i)
  | 0, fu, i, g, n, M, hm, hf, hi, T, S, h19, hn, hn2, hg, hg2 => by
    obtain ⟨z, rfl⟩ : ∃ z, fu = z + 1 := ⟨fu - 1, by omega⟩
    have i31 : f_X12_is 31 M = some (if K i = 31 then 1 else 0) := r_is0 (k := 31) w T hi S.1 S.2.1 (by omega)
    unfold lwT lwG
    by_cases k31 : K i = 31
    · rw [if_pos k31] at i31
      obtain ⟨M1, e1, f1, D1, -⟩ := r_fail0 (H := 420 * v + 420) (n := n) (x := 2) w T hi S.1 S.2.1 (by omega) (by omega)
      refine ⟨M1, ?_, f1.ql, ?_⟩
      · rw [f_X12_tellLaw_L12, if_pos S.1, i31, sb, if_neg (by decide), if_pos (show nI (4 - 0) = 4 from rfl), show f_X12_fail 2 M = some M1 from e1, sb, sb, if_neg D1.nl]
      · rw [if_pos k31]
        exact LT.er (y := (2, i)) rfl D1
    · rw [if_neg k31] at i31
      rw [if_neg k31, f_X12_tellLaw_L12, if_pos S.1, i31, sb, if_pos rfl]
      exact r_lastW w T hi hv hx S h19 hn hn2 hg hg2
  | m + 1, fu, i, g, n, M, hm, hf, hi, T, S, h19, hn, hn2, hg, hg2 => by
    have hE := w.1
    obtain ⟨z, rfl⟩ : ∃ z, fu = z + 1 + 1 := ⟨fu - 2, by omega⟩
    have i31 : f_X12_is 31 M = some (if K i = 31 then 1 else 0) := r_is0 (k := 31) w T hi S.1 S.2.1 (by omega)
    have l5 : ¬ nI (4 - (m + 1)) = 4 := fun q => by
      have := nI_inj (b := 4) (by omega) (by omega) q
      omega
    by_cases k31 : K i = 31
    · rw [if_pos k31] at i31
      obtain ⟨M1, e1, f1, p1, p2, b1, b2, b3, b4⟩ := r_go0 (H := 420 * v + 420) (n := n) w T hi S.1 S.2.1
      have F1 : QL v x g n M M1 := f1.ql
      have g1 : M1.1 67 39 = nI g := (f1.2.1 39 (by decide)).trans S.2.2.2.2
      have L : f_X12_tellLaw_L12 (rKF (nI x) v3) (z + 1 + 1) (nI x) v3 (nI (4 - (m + 1))) M = rT1 (nI x) v3 (nI (4 - m)) (z + 1) M1 := by
        rw [f_X12_tellLaw_L12, if_pos S.1, i31, sb, if_neg (by decide), if_neg l5, sb, S.1, if_pos (by decide), nI_1, lt_def, e1, sb, show 4 - (m + 1) + 1 = 4 - m by omega]
        rfl
      rw [L]
      unfold lwT
      rw [lwG, if_pos k31]
      by_cases h4 : i < 400
      · have x1 : exK K 31 i = .ok (i + 1) := by unfold exK; rw [if_pos k31, if_pos h4]
        rw [x1]
        obtain ⟨u1, u2, u3, u4⟩ := p1 h4
        have S1 : GS (i + 1) g n M1 := ⟨u1, u2, b4.trans S.2.2.1, b3.trans S.2.2.2.1, g1⟩
        have hi1 := w.nx hi (by omega) (by omega) h4
        let M2 := sI M1 93 g 1
        have S2 : GS (i + 1) g n M2 := S1.wr (by decide)
        let M3 := sI M2 94 g (nI n)
        have S3 : GS (i + 1) g n M3 := S2.wr (by decide)
        have F3 : QL v x g n M M3 := (F1.tr (QL.br (by omega) (by omega) (Nat.le_refl _) (by omega)) (Nat.le_refl _) (Nat.le_refl _)).tr (QL.br (by omega) (by omega) (Nat.le_refl _) (by omega)) (Nat.le_refl _) (Nat.le_refl _)
        have R1 : rT1 (nI x) v3 (nI (4 - m)) (z + 1) M1 = rT2 (nI x) v3 (nI (4 - m)) (z + 1) M3 := by
          unfold rT1
          rw [g1, pz_n (by omega) (by omega), sb, show vp_nar .boolean (1 : Int32) = 1 by decide, show (sI M1 93 g 1).1 67 39 = nI g from S2.2.2.2.2, show (sI M1 93 g 1).1 67 45 = nI n from S2.2.2.2.1, pg_n (by omega) (by omega), sb]
        rw [R1]
        obtain ⟨M4, e4, f4, a1, a2⟩ := r_exX (v := v) w (T.ql F3) hi1 hv S3 (by omega)
        have F4 := F3.tr (f4.ql (x := x) (g := g)) (Nat.le_refl _) (Nat.le_refl _)
        show ∃ M', rT2 (nI x) v3 (nI (4 - m)) (z + 1) M3 = some M' ∧ QL v x g n M M' ∧ LT K P E v x i g n v3 M' (((rdG K V 21 0 0 (i + 1)).bind _).bind _)
        cases hra : rdG K V 21 0 0 (i + 1) with
        | error y =>
          have D4 := a2 y hra
          obtain ⟨Mx, ex, fx, Dx⟩ := t3D (x := x) (n := n) (fu := z) (x1 := nI x) (v3 := v3) (l3 := nI (4 - m)) hv D4 (by omega)
          exact ⟨Mx, by unfold rT2; rw [e4, sb, ex], F4.tr fx (Nat.le_refl _) (Nat.le_refl _), LT.er rfl Dx⟩
        | ok a =>
          obtain ⟨S4, C4, c1, c2, c3⟩ := a1 a hra
          obtain ⟨M5, e5, f5, d1, d2⟩ := r_muX (H := 420 * v + 420) (k := 13) w (T.ql F4) c2 S4 (by omega) (by omega) (by omega)
          have F5 := F4.tr (f5.ql (x := x) (g := g)) (Nat.le_refl _) (by omega)
          show ∃ M', rT2 (nI x) v3 (nI (4 - m)) (z + 1) M3 = some M' ∧ QL v x g n M M' ∧ LT K P E v x i g n v3 M' (((exK K 13 a.2).bind _).bind _)
          have R2 : ∀ {A}, ((pg M5 95 260 (M5.1 67 39) (M5.1 67 45)).bind fun M22 => rT4 (nI x) v3 (nI (4 - m)) (z + 1) M22) = A → rT2 (nI x) v3 (nI (4 - m)) (z + 1) M3 = A := fun {A} h => by
            unfold rT2 rT3
            rw [e4, sb, show f_X12_must 13 M4 = some M5 from e5, sb, h]
          cases hx2 : exK K 13 a.2 with
          | error y =>
            have D5 := d2 y hx2
            obtain ⟨Mx, ex, fx, Dx⟩ := t4D (x := x) (n := n) (fu := z) (x1 := nI x) (v3 := v3) (l3 := nI (4 - m)) hv (D5.wr (a := 95) (j := g) (y := M5.1 67 45) (by decide)) (by omega)
            exact ⟨Mx, R2 (by rw [D5.2, pg_n (by omega) (by omega), sb, ex]), (F5.tr (QL.br (by omega) (by omega) (Nat.le_refl _) (by omega)) (Nat.le_refl _) (Nat.le_refl n)).tr fx (Nat.le_refl _) (Nat.le_refl _), LT.er rfl Dx⟩
          | ok i2 =>
            obtain ⟨rfl, hi2, S5, q58, q59⟩ := d1 i2 hx2
            let M6 := sI M5 95 g (nI (n + a.1.length))
            have S6 : GS (a.2 + 1) g (n + a.1.length) M6 := S5.wr (by decide)
            have F6 : QL v x g n M M6 := F5.tr (QL.br (by omega) (by omega) (Nat.le_refl _) (by omega)) (Nat.le_refl _) (Nat.le_refl n)
            obtain ⟨M7, e7, f7, a3, a4⟩ := r_exX (v := v) w (T.ql F6) hi2 hv S6 (by omega)
            have F7 := F6.tr (f7.ql (x := x) (g := g)) (Nat.le_refl _) (by omega)
            have R3 : ∀ {A}, ((f_X12_must (32 : Int32) M7).bind fun M28 => rT5 (nI x) v3 (nI (4 - m)) (z + 1) M28) = A → rT2 (nI x) v3 (nI (4 - m)) (z + 1) M3 = A := fun {A} h => R2 (by
              rw [S5.2.2.2.2, S5.2.2.2.1, pg_n (by omega) (by omega), sb]
              unfold rT4
              rw [if_pos (show (sI M5 95 g (nI (n + a.1.length))).1 67 13 = 0 from S6.1), show f_X12_expression (sI M5 95 g (nI (n + a.1.length))) = some M7 from e7, sb, sb, h])
            show ∃ M', rT2 (nI x) v3 (nI (4 - m)) (z + 1) M3 = some M' ∧ QL v x g n M M' ∧ LT K P E v x i g n v3 M' (((rdG K V 21 0 0 (a.2 + 1)).bind _).bind _)
            cases hrb : rdG K V 21 0 0 (a.2 + 1) with
            | error y =>
              have D7 := a4 y hrb
              obtain ⟨Mx, ex, fx, Dx⟩ := t5D (x := x) (n := n) (fu := z) (x1 := nI x) (v3 := v3) (l3 := nI (4 - m)) hv D7 (by omega)
              exact ⟨Mx, R3 (by rw [r_mustD D7.1, sb, ex]), F7.tr fx (Nat.le_refl _) (Nat.le_refl _), LT.er rfl Dx⟩
            | ok b =>
              obtain ⟨S7, C7, c4, c5, c6⟩ := a3 b hrb
              obtain ⟨M8, e8, f8, d3, d4⟩ := r_muX (H := 420 * v + 420) (k := 32) w (T.ql F7) c5 S7 (by omega) (by omega) (by omega)
              have F8 := F7.tr (f8.ql (x := x) (g := g)) (Nat.le_refl _) (by omega)
              show ∃ M', rT2 (nI x) v3 (nI (4 - m)) (z + 1) M3 = some M' ∧ QL v x g n M M' ∧ LT K P E v x i g n v3 M' (((exK K 32 b.2).bind _).bind _)
              cases hx3 : exK K 32 b.2 with
              | error y =>
                have D8 := d4 y hx3
                obtain ⟨Mx, ex, fx, Dx⟩ := t5D (x := x) (n := n) (fu := z) (x1 := nI x) (v3 := v3) (l3 := nI (4 - m)) hv D8 (by omega)
                exact ⟨Mx, R3 (by rw [show f_X12_must 32 M7 = some M8 from e8, sb, ex]), F8.tr fx (Nat.le_refl _) (Nat.le_refl _), LT.er rfl Dx⟩
              | ok i3 =>
                obtain ⟨rfl, hi3, S8, q88, q89⟩ := d3 i3 hx3
                obtain ⟨M9, e9, f9, a5, a6⟩ := r_trX (x := x) w (T.ql F8) hi3 hv S8 (by omega) (by omega)
                have F9 := F8.tr f9 (Nat.le_refl _) (by omega)
                have R4 : ∀ {A}, ((f_X12_must (33 : Int32) M9).bind fun M32 => f_X12_tellLaw_L12 (rKF (nI x) v3) (z + 1) (nI x) v3 (nI (4 - m)) M32) = A → rT2 (nI x) v3 (nI (4 - m)) (z + 1) M3 = A := fun {A} h => R3 (by
                  rw [show f_X12_must 32 M7 = some M8 from e8, sb]
                  unfold rT5
                  rw [e9, sb, h])
                have dead : ∀ {e p} {Mz : Mem}, GD e p (g + 1) Mz → QL v x g n M Mz → ∃ Mx, f_X12_tellLaw_L12 (rKF (nI x) v3) (z + 1) (nI x) v3 (nI (4 - m)) Mz = some Mx ∧ QL v x g n M Mx ∧ QD e p Mx := fun {e p Mz} D F => by
                  obtain ⟨Mx, ex, fx, Dx⟩ := kfD (x := x) (n := n) (x1 := nI x) (v3 := v3) hv D (by omega)
                  exact ⟨Mx, by rw [f_X12_tellLaw_L12, if_neg D.1.n0, ex], F.tr fx (by omega) (Nat.le_refl _), Dx⟩
                show ∃ M', rT2 (nI x) v3 (nI (4 - m)) (z + 1) M3 = some M' ∧ QL v x g n M M' ∧ LT K P E v x i g n v3 M' (((rdG K V 21 0 0 (b.2 + 1)).bind _).bind _)
                cases hrc : rdG K V 21 0 0 (b.2 + 1) with
                | error y =>
                  have D9 := a6 y hrc
                  obtain ⟨Mx, ex, fx, Dx⟩ := dead D9 F9
                  exact ⟨Mx, R4 (by rw [r_mustD D9.1, sb, ex]), fx, LT.er rfl Dx⟩
                | ok c =>
                  obtain ⟨S9, C9, t1, t2, t3, t4, t5, t6, t7, t8⟩ := a5 c hrc
                  obtain ⟨M10, e10, f10, d5, d6⟩ := r_muX (H := 420 * v + 420) (k := 33) w (T.ql F9) t7 S9 (by omega) (by omega) (by omega)
                  have F10 := F9.tr (f10.ql (x := x) (g := g + 1)) (by omega) (by omega)
                  show ∃ M', rT2 (nI x) v3 (nI (4 - m)) (z + 1) M3 = some M' ∧ QL v x g n M M' ∧ LT K P E v x i g n v3 M' (((exK K 33 c.2).bind _).bind _)
                  cases hx4 : exK K 33 c.2 with
                  | error y =>
                    have D10 := d6 y hx4
                    obtain ⟨Mx, ex, fx, Dx⟩ := dead D10 F10
                    exact ⟨Mx, R4 (by rw [show f_X12_must 33 M9 = some M10 from e10, sb, ex]), fx, LT.er rfl Dx⟩
                  | ok i4 =>
                    obtain ⟨rfl, hi4, S10, q108, q109⟩ := d5 i4 hx4
                    obtain ⟨M', e', f', L'⟩ := r_lawB (v3 := v3) w hv hx m (z + 1) (c.2 + 1) (g + 1) (n + a.1.length + b.1.length + c.1.length) M10 (by omega) (by omega) hi4 (T.ql F10) S10 ((F10.2.1 19 (by decide)).trans h19) (by omega) (by omega) (by omega) (by omega)
                    refine ⟨M', R4 (by rw [show f_X12_must 33 M9 = some M10 from e10, sb, e']), F10.tr f' (by omega) (by omega), ?_⟩
                    show LT K P E v x i g n v3 M' (((lwG K V m (c.2 + 1)).bind _).bind _)
                    cases hl : lwG K V m (c.2 + 1) with
                    | error y => exact LT.er rfl (L'.2 y (by unfold lwT; rw [hl]; rfl))
                    | ok r =>
                      show LT K P E v x i g n v3 M' ((exK K 4 r.2.2).bind _)
                      cases hx5 : exK K 4 r.2.2 with
                      | error y => exact LT.er rfl (L'.2 y (by unfold lwT; rw [hl]; show (exK K 4 r.2.2).bind _ = _; rw [hx5]; rfl))
                      | ok j =>
                        obtain ⟨⟨n', o1, o2, S', Ls'⟩, LM', k91, k92, j1, j2, j3⟩ := L'.1 (r.1, r.2.1, j) (by unfold lwT; rw [hl]; show (exK K 4 r.2.2).bind _ = _; rw [hx5]; rfl)
                        refine ⟨fun y hy => ?_, fun y hy => by cases hy⟩
                        cases hy
                        have G9 : ∀ k, 93 ≤ k → k ≤ 97 → M'.1 k g = M9.1 k g := fun k p q => (f'.2.2.2.1 k p q g (by omega)).trans (congrFun (f10.1 k (by omega) (by omega) (by omega) (by omega)) g)
                        have G6 : ∀ k, 93 ≤ k → k ≤ 97 → M8.1 k g = M6.1 k g := fun k p q => (congrFun (f8.1 k (by omega) (by omega) (by omega) (by omega)) g).trans (congrFun (f7.1 k (by omega) (by omega) (by omega) (by omega)) g)
                        have G3 : ∀ k, 93 ≤ k → k ≤ 94 → M6.1 k g = M3.1 k g := fun k p q => (congrFun (sI_cell (by omega)) g).trans ((congrFun (f5.1 k (by omega) (by omega) (by omega) (by omega)) g).trans (congrFun (f4.1 k (by omega) (by omega) (by omega) (by omega)) g))
                        have A9 : ∀ q, q < n + a.1.length + b.1.length + c.1.length → M'.1 98 q = M9.1 98 q ∧ M'.1 99 q = M9.1 99 q := fun q hq => by
                          have := f'.2.2.2.2.1 q (Or.inl hq)
                          exact ⟨this.1.trans (congrFun q108 q), this.2.trans (congrFun q109 q)⟩
                        have A7 : ∀ q, q < n + a.1.length + b.1.length → M'.1 98 q = M7.1 98 q ∧ M'.1 99 q = M7.1 99 q := fun q hq => by
                          have y1 := A9 q (by omega)
                          have y2 := f9.2.2.2.2.1 q (Or.inl hq)
                          exact ⟨y1.1.trans (y2.1.trans (congrFun q88 q)), y1.2.trans (y2.2.trans (congrFun q89 q))⟩
                        have A4 : ∀ q, q < n + a.1.length → M'.1 98 q = M4.1 98 q ∧ M'.1 99 q = M4.1 99 q := fun q hq => by
                          have y1 := A7 q (by omega)
                          have y2 := f7.2.2.1 q (Or.inl hq)
                          exact ⟨y1.1.trans (y2.1.trans ((congrFun (sI_cell (by decide)) q).trans (congrFun q58 q))), y1.2.trans (y2.2.trans ((congrFun (sI_cell (by decide)) q).trans (congrFun q59 q)))⟩
                        refine ⟨⟨n', by omega, o2, ?_, ?_⟩, ⟨⟨hg, by omega⟩, ?_, ⟨n, ⟨hn2, ?_⟩, ?_, ?_, (G9 96 (by omega) (by omega)).trans t1, (G9 97 (by omega) (by omega)).trans t2, C4.of (fun q _ h => A4 q h), C7.of (fun q _ h => A7 q h), C9.of (fun q _ h => A9 q h)⟩, LM'⟩, k91, ?_, ?_, j2, ?_⟩
                        · show GS j (g + (r.1.length + 1) + 1) n' M'
                          rw [show g + (r.1.length + 1) + 1 = g + 1 + r.1.length + 1 by omega]
                          exact S'
                        · intro M'' h1 h2
                          have h1 : ∀ a q, 93 ≤ a → a ≤ 97 → q < g + (r.1.length + 1) + 1 → M''.1 a q = M'.1 a q := h1
                          have k1 : ∀ k, 93 ≤ k → k ≤ 97 → M''.1 k g = M'.1 k g := fun k p q => h1 k g p q (by omega)
                          exact ⟨⟨hg, by omega⟩, (k1 93 (by omega) (by omega)).trans ((G9 93 (by omega) (by omega)).trans (t3.trans ((G6 93 (by omega) (by omega)).trans ((G3 93 (by omega) (by omega)).trans ((congrFun (sI_cell (by decide)) g).trans sI_same))))), ⟨n, ⟨hn2, by show n + a.1.length + b.1.length + c.1.length ≤ 420 * v + 420; omega⟩, (k1 94 (by omega) (by omega)).trans ((G9 94 (by omega) (by omega)).trans (t4.trans ((G6 94 (by omega) (by omega)).trans ((G3 94 (by omega) (by omega)).trans sI_same)))), (k1 95 (by omega) (by omega)).trans ((G9 95 (by omega) (by omega)).trans (t5.trans ((G6 95 (by omega) (by omega)).trans sI_same))), (k1 96 (by omega) (by omega)).trans ((G9 96 (by omega) (by omega)).trans t1), (k1 97 (by omega) (by omega)).trans ((G9 97 (by omega) (by omega)).trans t2), C4.of (fun q _ h => ⟨(h2 q (by omega)).1.trans (A4 q h).1, (h2 q (by omega)).2.trans (A4 q h).2⟩), C7.of (fun q _ h => ⟨(h2 q (by omega)).1.trans (A7 q h).1, (h2 q (by omega)).2.trans (A7 q h).2⟩), C9.of (fun q _ h => ⟨(h2 q (by omega)).1.trans (A9 q h).1, (h2 q (by omega)).2.trans (A9 q h).2⟩)⟩, Ls' M'' (fun k q p1 p2 hq => h1 k q p1 p2 (by have : q < g + 1 + r.1.length + 1 := hq; omega)) h2⟩
                        · exact (G9 93 (by omega) (by omega)).trans (t3.trans ((G6 93 (by omega) (by omega)).trans ((G3 93 (by omega) (by omega)).trans ((congrFun (sI_cell (by decide)) g).trans sI_same))))
                        · show n + a.1.length + b.1.length + c.1.length ≤ 420 * v + 420
                          omega
                        · exact (G9 94 (by omega) (by omega)).trans (t4.trans ((G6 94 (by omega) (by omega)).trans ((G3 94 (by omega) (by omega)).trans sI_same)))
                        · exact (G9 95 (by omega) (by omega)).trans (t5.trans ((G6 95 (by omega) (by omega)).trans sI_same))
                        · show M'.1 92 (4 * v + x) = nI (g + (r.1.length + 1) + 1)
                          rw [show g + (r.1.length + 1) + 1 = g + 1 + r.1.length + 1 by omega]
                          exact k92
                        · have : c.2 + 1 < j := j1
                          show i < j
                          omega
                        · have j3' : 4 * (g + 1 + r.1.length + 1) ≤ 4 * (130 * v) + j := j3
                          show 4 * (g + (r.1.length + 1) + 1) ≤ 4 * (130 * v) + j
                          omega
      · have x1 : exK K 31 i = .error (2, i) := by unfold exK; rw [if_pos k31, if_neg h4]
        rw [x1]
        obtain ⟨Mx, ex, fx, Dx⟩ := t1D (x := x) (n := n) (fu := z) (x1 := nI x) (v3 := v3) (l3 := nI (4 - m)) hv ⟨p2 h4, g1⟩ (by omega)
        exact ⟨Mx, ex, F1.tr fx (Nat.le_refl _) (Nat.le_refl _), LT.er (y := (2, i)) rfl Dx⟩
    · rw [if_neg k31] at i31
      unfold lwT
      rw [lwG, if_neg k31, f_X12_tellLaw_L12, if_pos S.1, i31, sb, if_pos rfl]
      exact r_lastW w T hi hv hx S h19 hn hn2 hg hg2
end RLD

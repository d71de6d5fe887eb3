-- 89r.rtell3: pure: the young, the start, numbers and laws, as the reference reads them; a whole tell
section RTY
variable {K V P : Nat → Nat} {N : Nat → Int64} {E v n g i : Nat} {M M' : Mem} {nm : List (Int64 × Nat)} {lf : Nat × Nat} {τ : Nat → Nat → Nat} {B : Nat → List (Cd × Cd × Cd)} {W : Nat → Cd}
def rY4 (x : Int32) (v2 : Int32) (M : Mem) : Option Mem := (f_X12_known M).bind fun t12 => (pg t12.2 85 12 v2 t12.1).bind fun M13 => (f_X12_endsName x (10 : Int32) M13).bind fun M15 => rUp 82 M15
def rY3 (x : Int32) (v2 : Int32) (M : Mem) : Option Mem := (f_X12_bounded (0 : Int32) (9 : Int32) M).bind fun t9 => (pg t9.2 84 12 v2 t9.1).bind fun M10 => rY4 x v2 M10
def rY2 (x : Int32) (v2 : Int32) (M : Mem) : Option Mem := (f_X12_bounded (10 : Int32) (40 : Int32) M).bind fun t6 => (pg t6.2 83 12 v2 t6.1).bind fun M7 => rY3 x v2 M7
theorem Y4Dr {e p s : Nat} {x : Int32} (hv : v ≤ 1) (hs : s < 6) (D : DM e p v M) : ∃ M', rY4 x (nI (6 * v + s)) M = some M' ∧ FH v M M' ∧ DM e p v M' := by
  have D1 := D.wr (a := 85) (j := 6 * v + s) (x := -1) (by decide)
  exact ⟨_, by unfold rY4; rw [r_knD D, sb, pg_n (by omega) (by omega), sb, r_endD D1, sb, rUp_D D1], FH.wr (by omega) (by omega) (nsd3 hv (by omega) (by omega) hs), D1⟩
theorem Y3Dr {e p s : Nat} {x : Int32} (hv : v ≤ 1) (hs : s < 6) (D : DM e p v M) : ∃ M', rY3 x (nI (6 * v + s)) M = some M' ∧ FH v M M' ∧ DM e p v M' := by
  obtain ⟨M2, e2, f2, D2⟩ := Y4Dr (x := x) hv hs (D.wr (a := 84) (j := 6 * v + s) (x := 0) (by decide))
  exact ⟨M2, by unfold rY3; rw [r_boD D, sb, pg_n (by omega) (by omega), sb, e2], (FH.wr (by omega) (by omega) (nsd3 hv (by omega) (by omega) hs)).tr f2, D2⟩
theorem Y2Dr {e p s : Nat} {x : Int32} (hv : v ≤ 1) (hs : s < 6) (D : DM e p v M) : ∃ M', rY2 x (nI (6 * v + s)) M = some M' ∧ FH v M M' ∧ DM e p v M' := by
  obtain ⟨M2, e2, f2, D2⟩ := Y3Dr (x := x) hv hs (D.wr (a := 83) (j := 6 * v + s) (x := 10) (by decide))
  exact ⟨M2, by unfold rY2; rw [r_boD D, sb, pg_n (by omega) (by omega), sb, e2], (FH.wr (by omega) (by omega) (nsd3 hv (by omega) (by omega) hs)).tr f2, D2⟩
/-- YOUNG -/
theorem r_youngT (hv : v ≤ 1) (w : wfK K P V E) (mP : ∀ a, a < E → P a < P (a + 1)) (T : tokM K P V N E M) (I : RI P E v (i, τ, nm, B, W, lf) M) (b : bdS τ nm) (hk : K i = 22) : ∃ M', f_X12_tellOne M = some M' ∧ FH v M M' ∧ TP P E v i M' (tlY K V P N (i, τ, nm, B, W, lf)) := by
  have hE := w.1
  obtain ⟨g, n, A, C, Pc, Lw⟩ := I
  obtain ⟨b1, b2, b3, b4, b5⟩ := b
  have A : AM P E v i g n nm lf M := A
  have C : CNm v τ M := C
  have Pc : lf.1 = 0 → PCm v τ M := Pc
  have Lw : LWm v g n B W M := Lw
  have hiE := A.2.2.2.2.2.1
  have hs : tlY K V P N (i, τ, nm, B, W, lf) = (if 6 ≤ tY τ then .error (2, i) else exK K 22 i : Except (Nat × Nat) Nat).bind fun i1 => (exK K 1 i1).bind fun i2 => (exK K 2 i2).bind fun i3 => (exK K 2 i3).bind fun i4 => (exK K 1 i4).bind fun i5 => (exK K 4 i5).bind fun i6 => .ok (i6, upT (upT (upT (upT τ 4 (tY τ) (V i2)) 5 (tY τ) (V i3)) 6 (tY τ) ((lkM nm (N i4)).getD 0)) 0 2 (tY τ + 1), nm ++ [(N i1, 10)], B, W, cnS P N nm i4 (inS V P 0 9 i3 (inS V P 10 40 i2 (lfU lf (lkN nm (N i1)) 3 (P i1))))) := by
    unfold tlY
    dsimp only
    by_cases h : 6 ≤ tY τ
    · rw [if_pos h, if_pos h]; rfl
    · rw [if_neg h, if_neg h]
  obtain ⟨M1, e1, f1, a1, a2⟩ := r_room (c := tY τ) (m := 6) w mP T A hk (by omega) (by omega) (by omega) (by omega)
  have e1' : f_X12_roomFor (nI (tY τ)) 6 M = some M1 := e1
  have hr : f_X12_tellOne M = if M1.1 67 13 = 0 then f_X12_tellYoung M1 else some M1 := by
    unfold f_X12_tellOne
    rw [A.1.2.1, ag_n (by omega) (by omega), sb, (T i hiE).1, hk, if_neg (show ¬ nI 22 = 20 by decide), if_neg (show ¬ nI 22 = 21 by decide), if_pos (show nI 22 = 22 from rfl), A.2.1, ag_n (by omega) (by omega), sb, C.2.2.1, e1', sb, bs]
  rw [hr]
  cases h1 : (if 6 ≤ tY τ then .error (2, i) else exK K 22 i : Except (Nat × Nat) Nat) with
  | error x =>
    have D1 := a2 x h1
    rw [if_neg D1.1.n0]
    exact ⟨M1, rfl, f1.h, TP.er (by rw [hs, h1, eb_er]) D1⟩
  | ok i1 =>
    have A1 := a1 i1 h1
    have h7 : tY τ < 6 := by
      rcases Nat.lt_or_ge (tY τ) 6 with q | q
      · exact q
      · rw [if_pos q] at h1; cases h1
    have hn7 : ¬ 6 ≤ tY τ := by omega
    rw [if_neg hn7] at h1
    have j1 := (exK_ok h1).2.2
    have hi1 := A1.2.2.2.2.2.1
    have ns : ∀ a, 83 ≤ a → a ≤ 85 → ¬ sdR (1 - v) a (6 * v + tY τ) := fun a p q => nsd3 hv p q h7
    obtain ⟨M2, e2, f2, p1, p2⟩ := r_namA w mP (T.fk f1) A1
    have F2 := f1.tr f2
    have hc1 := (C.q f1.q).2.2.1
    rw [if_pos A1.1.1]
    have r1 : f_X12_tellYoung M1 = rY2 (nI i1) (nI (6 * v + tY τ)) M2 := by
      unfold f_X12_tellYoung
      rw [A1.2.1, ag_n (by omega) (by omega), sb, hc1, show (6 : Int32) = nI 6 from rfl, ix_m, lt_def, e2, sb]
      rfl
    rw [r1]
    cases h2 : exK K 1 i1 with
    | error x =>
      obtain ⟨M3, e3, f3, D3⟩ := Y2Dr (x := nI i1) hv h7 (p2 x h2)
      exact ⟨M3, e3, F2.h.tr f3, TP.er (by rw [hs, if_neg hn7, h1, eb_ok, h2, eb_er]) D3⟩
    | ok i2 =>
      have A2 := p1 i2 h2
      have j2 := (exK_ok h2).2.2
      obtain ⟨y1, M3, e3, f3, u1, u2⟩ := r_boA (a := 10) (b := 40) w mP (T.fk F2) A2 (by omega) (by omega)
      have e3' : f_X12_bounded 10 40 M2 = some (y1, M3) := e3
      have F3 := F2.tr f3
      have G3 : FH v M (sI M3 83 (6 * v + tY τ) y1) := F3.h.tr (FH.wr (by omega) (by omega) (ns 83 (by omega) (by omega)))
      have r2 : rY2 (nI i1) (nI (6 * v + tY τ)) M2 = rY3 (nI i1) (nI (6 * v + tY τ)) (sI M3 83 (6 * v + tY τ) y1) := by
        unfold rY2
        rw [e3', sb, pg_n (by omega) (by omega), sb]
      rw [r2]
      cases h3 : exK K 2 i2 with
      | error x =>
        obtain ⟨M4, e4, f4, D4⟩ := Y3Dr (x := nI i1) hv h7 ((u2 x h3).wr (a := 83) (j := 6 * v + tY τ) (x := y1) (by decide))
        exact ⟨M4, e4, G3.tr f4, TP.er (by rw [hs, if_neg hn7, h1, eb_ok, h2, eb_ok, h3, eb_er]) D4⟩
      | ok i3 =>
        obtain ⟨A3, hy1⟩ := u1 i3 h3
        have j3 := (exK_ok h3).2.2
        have A3' := A3.wr (a := 83) (j := 6 * v + tY τ) (x := y1) (by decide) (by decide)
        obtain ⟨y2, M4, e4, f4, s1, s2⟩ := r_boA (a := 0) (b := 9) w mP (T.fh G3) A3' (by omega) (by omega)
        have e4' : f_X12_bounded 0 9 (sI M3 83 (6 * v + tY τ) y1) = some (y2, M4) := e4
        have G4 : FH v M (sI M4 84 (6 * v + tY τ) y2) := (G3.tr f4.h).tr (FH.wr (by omega) (by omega) (ns 84 (by omega) (by omega)))
        have r3 : rY3 (nI i1) (nI (6 * v + tY τ)) (sI M3 83 (6 * v + tY τ) y1) = rY4 (nI i1) (nI (6 * v + tY τ)) (sI M4 84 (6 * v + tY τ) y2) := by
          unfold rY3
          rw [e4', sb, pg_n (by omega) (by omega), sb]
        rw [r3]
        cases h4 : exK K 2 i3 with
        | error x =>
          obtain ⟨M5, e5, f5, D5⟩ := Y4Dr (x := nI i1) hv h7 ((s2 x h4).wr (a := 84) (j := 6 * v + tY τ) (x := y2) (by decide))
          exact ⟨M5, e5, G4.tr f5, TP.er (by rw [hs, if_neg hn7, h1, eb_ok, h2, eb_ok, h3, eb_ok, h4, eb_er]) D5⟩
        | ok i4 =>
          obtain ⟨A4, hy2⟩ := s1 i4 h4
          have j4 := (exK_ok h4).2.2
          have A4' := A4.wr (a := 84) (j := 6 * v + tY τ) (x := y2) (by decide) (by decide)
          obtain ⟨y3, M5, e5, f5, o1, o2⟩ := r_knA w mP (T.fh G4) A4'
          have G5 : FH v M (sI M5 85 (6 * v + tY τ) y3) := (G4.tr f5.h).tr (FH.wr (by omega) (by omega) (ns 85 (by omega) (by omega)))
          have run : ∀ {X A}, f_X12_endsName (nI i1) 10 (sI M5 85 (6 * v + tY τ) y3) = some X → rUp 82 X = A → rY4 (nI i1) (nI (6 * v + tY τ)) (sI M4 84 (6 * v + tY τ) y2) = A := fun {X A} h h' => by
            unfold rY4
            rw [e5, sb, pg_n (by omega) (by omega), sb, h, sb, h']
          cases h5 : exK K 1 i4 with
          | error x =>
            have D5 := (o2 x h5).wr (a := 85) (j := 6 * v + tY τ) (x := y3) (by decide)
            exact ⟨_, run (r_endD D5) (rUp_D D5), G5, TP.er (by rw [hs, if_neg hn7, h1, eb_ok, h2, eb_ok, h3, eb_ok, h4, eb_ok, h5, eb_er]) D5⟩
          | ok i5 =>
            obtain ⟨A5, hy3⟩ := o1 i5 h5
            have j5 := (exK_ok h5).2.2
            have A5' := A5.wr (a := 85) (j := 6 * v + tY τ) (x := y3) (by decide) (by decide)
            obtain ⟨M6, e6, f6, l1, l2⟩ := r_endA (c := 10) (i1 := i1) w mP (T.fh G5) A5' (by omega) (by omega) hi1 (exK_ok h2).1
            have e6' : f_X12_endsName (nI i1) 10 (sI M5 85 (6 * v + tY τ) y3) = some M6 := e6
            have G6 := G5.tr (f6.h (v := v))
            cases h6 : exK K 4 i5 with
            | error x =>
              have D6 := l2 x h6
              exact ⟨M6, run e6' (rUp_D D6), G6, TP.er (by rw [hs, if_neg hn7, h1, eb_ok, h2, eb_ok, h3, eb_ok, h4, eb_ok, h5, eb_ok, h6, eb_er]) D6⟩
            | ok i6 =>
              obtain ⟨A6, j6⟩ := l1 i6 h6
              have k6 : ∀ a, 77 ≤ a → a ≤ 99 → a ≠ 83 → a ≠ 84 → a ≠ 85 → M6.1 a = M.1 a := fun a p q x1 x2 x3 => (f6.q a p q).trans ((sI_cell x3).trans ((f5.q a p q).trans ((sI_cell x2).trans ((f4.q a p q).trans ((sI_cell x1).trans (F3.q a p q))))))
              have c82 : M6.1 82 v = nI (tY τ) := by rw [k6 82 (by decide) (by decide) (by decide) (by decide) (by decide)]; exact C.2.2.1
              have k7 : ∀ a, 77 ≤ a → a ≤ 99 → a ≠ 83 → a ≠ 84 → a ≠ 85 → a ≠ 82 → (sI M6 82 v (nI (tY τ + 1))).1 a = M.1 a := fun a p q x1 x2 x3 x4 => (sI_cell x4).trans (k6 a p q x1 x2 x3)
              have c1 : ∀ q, (sI M6 82 v (nI (tY τ + 1))).1 83 q = (sI M3 83 (6 * v + tY τ) y1).1 83 q := fun q => (congrFun (sI_cell (by decide)) q).trans ((congrFun (f6.q 83 (by decide) (by decide)) q).trans ((congrFun (sI_cell (by decide)) q).trans ((congrFun (f5.q 83 (by decide) (by decide)) q).trans ((congrFun (sI_cell (by decide)) q).trans (congrFun (f4.q 83 (by decide) (by decide)) q)))))
              have c2 : ∀ q, (sI M6 82 v (nI (tY τ + 1))).1 84 q = (sI M4 84 (6 * v + tY τ) y2).1 84 q := fun q => (congrFun (sI_cell (by decide)) q).trans ((congrFun (f6.q 84 (by decide) (by decide)) q).trans ((congrFun (sI_cell (by decide)) q).trans (congrFun (f5.q 84 (by decide) (by decide)) q)))
              have c3 : ∀ q, (sI M6 82 v (nI (tY τ + 1))).1 85 q = (sI M5 85 (6 * v + tY τ) y3).1 85 q := fun q => (congrFun (sI_cell (by decide)) q).trans (congrFun (f6.q 85 (by decide) (by decide)) q)
              have d1 : ∀ q, q ≠ 6 * v + tY τ → (sI M6 82 v (nI (tY τ + 1))).1 83 q = M.1 83 q := fun q hq => (c1 q).trans ((sI_ix hq).trans (congrFun (F3.q 83 (by decide) (by decide)) q))
              have d2 : ∀ q, q ≠ 6 * v + tY τ → (sI M6 82 v (nI (tY τ + 1))).1 84 q = M.1 84 q := fun q hq => (c2 q).trans ((sI_ix hq).trans ((congrFun (f4.q 84 (by decide) (by decide)) q).trans ((congrFun (sI_cell (by decide)) q).trans (congrFun (F3.q 84 (by decide) (by decide)) q))))
              have d3 : ∀ q, q ≠ 6 * v + tY τ → (sI M6 82 v (nI (tY τ + 1))).1 85 q = M.1 85 q := fun q hq => (c3 q).trans ((sI_ix hq).trans ((congrFun (f5.q 85 (by decide) (by decide)) q).trans ((congrFun (sI_cell (by decide)) q).trans ((congrFun (f4.q 85 (by decide) (by decide)) q).trans ((congrFun (sI_cell (by decide)) q).trans (congrFun (F3.q 85 (by decide) (by decide)) q))))))
              have e' : ∀ f k, f ≠ 0 → f ≠ 4 → f ≠ 5 → f ≠ 6 → upT (upT (upT (upT τ 4 (tY τ) (V i2)) 5 (tY τ) (V i3)) 6 (tY τ) ((lkM nm (N i4)).getD 0)) 0 2 (tY τ + 1) f k = τ f k := fun f k h0 h4 h5 h6 => (upT_f h0).trans ((upT_f h6).trans ((upT_f h5).trans (upT_f h4)))
              have e0 : ∀ k, k ≠ 2 → upT (upT (upT (upT τ 4 (tY τ) (V i2)) 5 (tY τ) (V i3)) 6 (tY τ) ((lkM nm (N i4)).getD 0)) 0 2 (tY τ + 1) 0 k = τ 0 k := fun k hk => (upT_k hk).trans ((upT_f (by decide)).trans ((upT_f (by decide)).trans (upT_f (by decide))))
              refine ⟨_, run e6' (rUp_A hv A6.1.1 A6.2.1 c82), G6.tr (FH.wr (by omega) (by omega) (nsd hv (by omega))), TP.mk (τ := upT (upT (upT (upT τ 4 (tY τ) (V i2)) 5 (tY τ) (V i3)) 6 (tY τ) ((lkM nm (N i4)).getD 0)) 0 2 (tY τ + 1)) (by rw [hs, if_neg hn7, h1, eb_ok, h2, eb_ok, h3, eb_ok, h4, eb_ok, h5, eb_ok, h6, eb_ok]) (A6.wr (by decide) (by decide)) ⟨?_, ?_, sI_same, ?_⟩ (fun z => ?_) (Lw.lw (fun a p q => k7 a (by omega) q (by omega) (by omega) (by omega) (by omega))) (by omega)⟩
              · rw [k7 77 (by decide) (by decide) (by decide) (by decide) (by decide) (by decide)]
                exact C.1.trans (congrArg nI (e0 0 (by decide)).symm)
              · rw [k7 78 (by decide) (by decide) (by decide) (by decide) (by decide) (by decide)]
                exact C.2.1.trans (congrArg nI (e0 1 (by decide)).symm)
              · rw [k7 86 (by decide) (by decide) (by decide) (by decide) (by decide) (by decide)]
                exact C.2.2.2.trans (congrArg nI (e0 3 (by decide)).symm)
              · obtain ⟨z1, z2⟩ := cnS_0 z
                obtain ⟨z3, -, -⟩ := inS_0 z1
                obtain ⟨z4, -, -⟩ := inS_0 z3
                obtain ⟨z5, z6⟩ := lfU_0 z4 (by omega)
                obtain ⟨q1, q2, q3, q4, q5, q6⟩ := Pc z5
                refine ⟨?_, ?_, ?_, fun s hs' => ?_, fun y' hy' => ?_, fun u hu => ?_⟩
                · rw [k7 88 (by decide) (by decide) (by decide) (by decide) (by decide) (by decide)]
                  exact q1.trans (congrArg nI (e0 6 (by decide)).symm)
                · rw [k7 89 (by decide) (by decide) (by decide) (by decide) (by decide) (by decide)]
                  exact q2.trans (congrArg nI (e0 4 (by decide)).symm)
                · rw [k7 90 (by decide) (by decide) (by decide) (by decide) (by decide) (by decide)]
                  exact q3.trans (congrArg nI (e0 5 (by decide)).symm)
                · have hs' : s < tS τ := Nat.lt_of_lt_of_eq hs' (e0 1 (by decide))
                  rw [k7 79 (by decide) (by decide) (by decide) (by decide) (by decide) (by decide), k7 80 (by decide) (by decide) (by decide) (by decide) (by decide) (by decide), k7 81 (by decide) (by decide) (by decide) (by decide) (by decide) (by decide), e' 1 s (by decide) (by decide) (by decide) (by decide), e' 2 s (by decide) (by decide) (by decide) (by decide), e' 3 s (by decide) (by decide) (by decide) (by decide)]
                  exact q4 s hs'
                · have hy' : y' < tY τ + 1 := hy'
                  by_cases e : y' = tY τ
                  · subst e
                    refine ⟨(c1 _).trans (sI_same.trans ?_), (c2 _).trans (sI_same.trans ?_), (c3 _).trans (sI_same.trans ?_)⟩
                    · rw [hy1]
                      simp [upT]
                    · rw [hy2]
                      simp [upT]
                    · rw [hy3]
                      cases hl : lkM nm (N i4) with
                      | none => rw [hl] at z2; cases z2
                      | some c => simp [upT, cvO]
                  · have u := q5 y' (by omega)
                    have e'' : ∀ f, 1 ≤ f → upT (upT (upT (upT τ 4 (tY τ) (V i2)) 5 (tY τ) (V i3)) 6 (tY τ) ((lkM nm (N i4)).getD 0)) 0 2 (tY τ + 1) f y' = τ f y' := fun f hf => (upT_f (by omega)).trans ((upT_k e).trans ((upT_k e).trans (upT_k e)))
                    rw [e'' 4 (by omega), e'' 5 (by omega), e'' 6 (by omega), d1 _ (by omega), d2 _ (by omega), d3 _ (by omega)]
                    exact u
                · have hu : u < tW τ := Nat.lt_of_lt_of_eq hu (e0 3 (by decide))
                  rw [k7 87 (by decide) (by decide) (by decide) (by decide) (by decide) (by decide), e' 7 u (by decide) (by decide) (by decide) (by decide)]
                  exact q6 u hu
/-- one word of the town: 88, 89 or 90 -/
theorem PCm.w {a f x : Nat} {y : Int32} (h : PCm v τ M) (hf : (a = 88 ∧ f = 6) ∨ (a = 89 ∧ f = 4) ∨ (a = 90 ∧ f = 5)) (hy : y = nI x) : PCm v (upT τ 0 f x) (sI M a v y) := by
  obtain ⟨q1, q2, q3, q4, q5, q6⟩ := h
  have ce : ∀ k, k ≠ 88 → k ≠ 89 → k ≠ 90 → (sI M a v y).1 k = M.1 k := fun k _ _ _ => sI_cell (by omega)
  have e' : ∀ g k, g ≠ 0 → upT τ 0 f x g k = τ g k := fun g k hg => upT_f hg
  have e0 : ∀ k, k ≠ f → upT τ 0 f x 0 k = τ 0 k := fun k hk => upT_k hk
  refine ⟨?_, ?_, ?_, fun s hs => ?_, fun y' hy' => ?_, fun u hu => ?_⟩
  · rcases hf with ⟨rfl, rfl⟩ | ⟨rfl, rfl⟩ | ⟨rfl, rfl⟩
    · exact (sI_same.trans hy).trans (congrArg nI upT_s.symm)
    · exact ((congrFun (sI_cell (by decide)) v).trans q1).trans (congrArg nI (e0 6 (by decide)).symm)
    · exact ((congrFun (sI_cell (by decide)) v).trans q1).trans (congrArg nI (e0 6 (by decide)).symm)
  · rcases hf with ⟨rfl, rfl⟩ | ⟨rfl, rfl⟩ | ⟨rfl, rfl⟩
    · exact ((congrFun (sI_cell (by decide)) v).trans q2).trans (congrArg nI (e0 4 (by decide)).symm)
    · exact (sI_same.trans hy).trans (congrArg nI upT_s.symm)
    · exact ((congrFun (sI_cell (by decide)) v).trans q2).trans (congrArg nI (e0 4 (by decide)).symm)
  · rcases hf with ⟨rfl, rfl⟩ | ⟨rfl, rfl⟩ | ⟨rfl, rfl⟩
    · exact ((congrFun (sI_cell (by decide)) v).trans q3).trans (congrArg nI (e0 5 (by decide)).symm)
    · exact ((congrFun (sI_cell (by decide)) v).trans q3).trans (congrArg nI (e0 5 (by decide)).symm)
    · exact (sI_same.trans hy).trans (congrArg nI upT_s.symm)
  · have hs : s < tS τ := Nat.lt_of_lt_of_eq hs (e0 1 (by omega))
    rw [ce 79 (by decide) (by decide) (by decide), ce 80 (by decide) (by decide) (by decide), ce 81 (by decide) (by decide) (by decide), e' 1 s (by decide), e' 2 s (by decide), e' 3 s (by decide)]
    exact q4 s hs
  · have hy' : y' < tY τ := Nat.lt_of_lt_of_eq hy' (e0 2 (by omega))
    rw [ce 83 (by decide) (by decide) (by decide), ce 84 (by decide) (by decide) (by decide), ce 85 (by decide) (by decide) (by decide), e' 4 y' (by decide), e' 5 y' (by decide), e' 6 y' (by decide)]
    exact q5 y' hy'
  · have hu : u < tW τ := Nat.lt_of_lt_of_eq hu (e0 3 (by omega))
    rw [ce 87 (by decide) (by decide) (by decide), e' 7 u (by decide)]
    exact q6 u hu
theorem CNm.w {a f x : Nat} {y : Int32} (h : CNm v τ M) (hf : (a = 88 ∧ f = 6) ∨ (a = 89 ∧ f = 4) ∨ (a = 90 ∧ f = 5)) : CNm v (upT τ 0 f x) (sI M a v y) := by
  have e0 : ∀ k, k ≠ f → upT τ 0 f x 0 k = τ 0 k := fun k hk => upT_k hk
  exact ⟨((congrFun (sI_cell (by omega)) v).trans h.1).trans (congrArg nI (e0 0 (by omega)).symm), ((congrFun (sI_cell (by omega)) v).trans h.2.1).trans (congrArg nI (e0 1 (by omega)).symm), ((congrFun (sI_cell (by omega)) v).trans h.2.2.1).trans (congrArg nI (e0 2 (by omega)).symm), ((congrFun (sI_cell (by omega)) v).trans h.2.2.2).trans (congrArg nI (e0 3 (by omega)).symm)⟩
/-- START -/
theorem r_startT (hv : v ≤ 1) (w : wfK K P V E) (mP : ∀ a, a < E → P a < P (a + 1)) (T : tokM K P V N E M) (I : RI P E v (i, τ, nm, B, W, lf) M) (hk : K i = 24) : ∃ M', f_X12_tellOne M = some M' ∧ FH v M M' ∧ TP P E v i M' (tlB K P N (i, τ, nm, B, W, lf)) := by
  have hE := w.1
  obtain ⟨g, n, A, C, Pc, Lw⟩ := I
  have A : AM P E v i g n nm lf M := A
  have C : CNm v τ M := C
  have Pc : lf.1 = 0 → PCm v τ M := Pc
  have Lw : LWm v g n B W M := Lw
  have hiE := A.2.2.2.2.2.1
  have hs : tlB K P N (i, τ, nm, B, W, lf) = (exK K 24 i).bind fun i1 => (exK K 1 i1).bind fun i2 => (exK K 4 i2).bind fun i3 => .ok (i3, upT τ 0 6 ((lkM nm (N i1)).getD 0), nm, B, W, cnS P N nm i1 lf) := rfl
  obtain ⟨M1, e1, f1, a1, a2⟩ := r_goA w mP T A hk (by omega) (by omega)
  have k19 : M1.1 67 19 = nI v := (f1.2.1 19 (by decide) (by decide) (by decide) (by decide) (by decide) (by decide)).trans A.2.1
  have G1 : ∀ {X : Mem} {y : Int32}, FK M X → FH v M (sI X 88 v y) := fun {X y} f => f.h.tr (FH.wr (by omega) (by omega) (nsd hv (by omega)))
  have run : ∀ {y X A'}, f_X12_known M1 = some (y, X) → f_X12_must 4 (sI X 88 v y) = some A' → f_X12_tellOne M = some A' := fun {y X A'} h h' => by
    unfold f_X12_tellOne
    rw [A.1.2.1, ag_n (by omega) (by omega), sb, (T i hiE).1, hk, if_neg (show ¬ nI 24 = 20 by decide), if_neg (show ¬ nI 24 = 21 by decide), if_neg (show ¬ nI 24 = 22 by decide), if_neg (show ¬ nI 24 = 23 by decide), if_pos (show nI 24 = 24 from rfl), e1, sb, h, sb, k19, pg_n (by omega) (by omega), sb, h', sb]
  cases h1 : exK K 24 i with
  | error x =>
    have D1 := a2 x h1
    have D2 := D1.wr (a := 88) (j := v) (x := -1) (by decide)
    exact ⟨_, run (r_knD D1) (r_mustD D2.1), G1 f1, TP.er (by rw [hs, h1, eb_er]) D2⟩
  | ok i1 =>
    have A1 := a1 i1 h1
    have j1 := (exK_ok h1).2.2
    obtain ⟨y, M2, e2, f2, p1, p2⟩ := r_knA w mP (T.fk f1) A1
    have F2 := f1.tr f2
    cases h2 : exK K 1 i1 with
    | error x =>
      have D2 := (p2 x h2).wr (a := 88) (j := v) (x := y) (by decide)
      exact ⟨_, run e2 (r_mustD D2.1), G1 F2, TP.er (by rw [hs, h1, eb_ok, h2, eb_er]) D2⟩
    | ok i2 =>
      obtain ⟨A2, hy⟩ := p1 i2 h2
      have j2 := (exK_ok h2).2.2
      have A3 := A2.wr (a := 88) (j := v) (x := y) (by decide) (by decide)
      obtain ⟨M4, e4, f4, q1, q2⟩ := r_muA (k := 4) w mP (T.fh (G1 (y := y) F2)) A3 (by omega) (by omega) (by omega)
      have G4 := (G1 (y := y) F2).tr (f4.fk.h (v := v))
      cases h3 : exK K 4 i2 with
      | error x => exact ⟨M4, run e2 e4, G4, TP.er (by rw [hs, h1, eb_ok, h2, eb_ok, h3, eb_er]) (q2 x h3)⟩
      | ok i3 =>
        obtain ⟨A4, j3, -⟩ := q1 i3 h3
        refine ⟨M4, run e2 e4, G4, TP.mk (τ := upT τ 0 6 ((lkM nm (N i1)).getD 0)) (by rw [hs, h1, eb_ok, h2, eb_ok, h3, eb_ok]) A4 (((C.q F2.q).w (Or.inl ⟨rfl, rfl⟩)).q f4.fk.q) (fun z => ?_) (Lw.lw (fun a p q => (f4.fk.q a (by omega) q).trans ((sI_cell (by omega)).trans (F2.q a (by omega) q)))) (by omega)⟩
        obtain ⟨z1, z2⟩ := cnS_0 z
        refine (((Pc z1).q F2.q).w (Or.inl ⟨rfl, rfl⟩) ?_).q f4.fk.q
        rw [hy]
        cases hl : lkM nm (N i1) with
        | none => rw [hl] at z2; cases z2
        | some c => rfl
/-- a number told -/
theorem r_intT {k a f y : Nat} (hv : v ≤ 1) (w : wfK K P V E) (mP : ∀ a, a < E → P a < P (a + 1)) (T : tokM K P V N E M) (I : RI P E v (i, τ, nm, B, W, lf) M) (hk : K i = k) (hf : (k = 29 ∧ a = 89 ∧ f = 4 ∧ y = 100) ∨ (k = 30 ∧ a = 90 ∧ f = 5 ∧ y = 9999)) : ∃ M', f_X12_tellOne M = some M' ∧ FH v M M' ∧ TP P E v i M' (tlI K V P k f y (i, τ, nm, B, W, lf)) := by
  have hE := w.1
  obtain ⟨g, n, A, C, Pc, Lw⟩ := I
  have A : AM P E v i g n nm lf M := A
  have C : CNm v τ M := C
  have Pc : lf.1 = 0 → PCm v τ M := Pc
  have Lw : LWm v g n B W M := Lw
  have hiE := A.2.2.2.2.2.1
  have hs : tlI K V P k f y (i, τ, nm, B, W, lf) = (exK K k i).bind fun i1 => (exK K 2 i1).bind fun i2 => (exK K 4 i2).bind fun i3 => .ok (i3, upT τ 0 f (V i1), nm, B, W, inS V P 0 y i1 lf) := rfl
  obtain ⟨M1, e1, f1, a1, a2⟩ := r_goA w mP T A hk (by omega) (by omega)
  have hf' : (a = 88 ∧ f = 6) ∨ (a = 89 ∧ f = 4) ∨ (a = 90 ∧ f = 5) := by omega
  have G1 : ∀ {X : Mem} {y : Int32}, FK M X → FH v M (sI X a v y) := fun {X y} f => f.h.tr (FH.wr (by omega) (by omega) (nsd hv (by omega)))
  have run : ∀ {z X A'}, f_X12_bounded 0 (nI y) M1 = some (z, X) → f_X12_must 4 X = some A' → f_X12_tellOne M = some (sI A' a v z) := fun {z X A'} h h' => by
    unfold f_X12_tellOne
    rw [A.1.2.1, ag_n (by omega) (by omega), sb, (T i hiE).1, hk]
    rcases hf with ⟨rfl, rfl, rfl, rfl⟩ | ⟨rfl, rfl, rfl, rfl⟩
    · have ti : f_X12_toldInt 100 M = some (z, A') := by
        unfold f_X12_toldInt
        rw [e1, sb, show f_X12_bounded 0 100 M1 = some (z, X) from h, sb, h', sb]
      rw [if_neg (show ¬ nI 29 = 20 by decide), if_neg (show ¬ nI 29 = 21 by decide), if_neg (show ¬ nI 29 = 22 by decide), if_neg (show ¬ nI 29 = 23 by decide), if_neg (show ¬ nI 29 = 24 by decide), if_pos (show nI 29 = 29 from rfl), ti, sb, A.2.1, pg_n (by omega) (by omega), sb]
    · have ti : f_X12_toldInt 9999 M = some (z, A') := by
        unfold f_X12_toldInt
        rw [e1, sb, show f_X12_bounded 0 9999 M1 = some (z, X) from h, sb, h', sb]
      rw [if_neg (show ¬ nI 30 = 20 by decide), if_neg (show ¬ nI 30 = 21 by decide), if_neg (show ¬ nI 30 = 22 by decide), if_neg (show ¬ nI 30 = 23 by decide), if_neg (show ¬ nI 30 = 24 by decide), if_neg (show ¬ nI 30 = 29 by decide), if_pos (show nI 30 = 30 from rfl), ti, sb, A.2.1, pg_n (by omega) (by omega), sb]
  have ha : a ≠ 67 ∧ a ≠ 76 := by omega
  cases h1 : exK K k i with
  | error x =>
    have D1 := a2 x h1
    exact ⟨_, run (r_boD D1) (r_mustD D1.1), G1 f1, TP.er (by rw [hs, h1, eb_er]) (D1.wr ha.1)⟩
  | ok i1 =>
    have A1 := a1 i1 h1
    have j1 := (exK_ok h1).2.2
    obtain ⟨z, M2, e2, f2, p1, p2⟩ := r_boA (a := 0) (b := y) w mP (T.fk f1) A1 (by omega) (by omega)
    have e2' : f_X12_bounded 0 (nI y) M1 = some (z, M2) := e2
    have F2 := f1.tr f2
    cases h2 : exK K 2 i1 with
    | error x =>
      have D2 := p2 x h2
      exact ⟨_, run e2' (r_mustD D2.1), G1 F2, TP.er (by rw [hs, h1, eb_ok, h2, eb_er]) (D2.wr ha.1)⟩
    | ok i2 =>
      obtain ⟨A2, hz⟩ := p1 i2 h2
      have j2 := (exK_ok h2).2.2
      obtain ⟨M4, e4, f4, q1, q2⟩ := r_muA (k := 4) w mP (T.fk F2) A2 (by omega) (by omega) (by omega)
      have F4 := F2.tr f4.fk
      cases h3 : exK K 4 i2 with
      | error x => exact ⟨_, run e2' e4, G1 F4, TP.er (by rw [hs, h1, eb_ok, h2, eb_ok, h3, eb_er]) ((q2 x h3).wr ha.1)⟩
      | ok i3 =>
        obtain ⟨A4, j3, -⟩ := q1 i3 h3
        exact ⟨_, run e2' e4, G1 F4, TP.mk (τ := upT τ 0 f (V i1)) (by rw [hs, h1, eb_ok, h2, eb_ok, h3, eb_ok]) (A4.wr ha.1 ha.2) ((C.q F4.q).w hf') (fun z => ((Pc (inS_0 z).1).q F4.q).w hf' hz) (Lw.lw (fun a p q => (sI_cell (by omega)).trans (F4.q a (by omega) q))) (by omega)⟩
/-- a law -/
theorem r_lawT {x : Nat} (hv : v ≤ 1) (w : wfK K P V E) (mP : ∀ a, a < E → P a < P (a + 1)) (T : tokM K P V N E M) (I : RI P E v (i, τ, nm, B, W, lf) M) (hx : x < 4) (hk : K i = 25 + x) : ∃ M', f_X12_tellOne M = some M' ∧ FH v M M' ∧ TP P E v i M' (tlL K V x (i, τ, nm, B, W, lf)) := by
  have hE := w.1
  obtain ⟨g, n, A, C, Pc, Lw⟩ := I
  have A : AM P E v i g n nm lf M := A
  have C : CNm v τ M := C
  have Pc : lf.1 = 0 → PCm v τ M := Pc
  have Lw : LWm v g n B W M := Lw
  have hs : tlL K V x (i, τ, nm, B, W, lf) = (lwHT K V x i).bind fun r => .ok (r.2.2, τ, nm, fun k => if k = x then r.1 else B k, fun k => if k = x then r.2.1 else W k, lf) := rfl
  obtain ⟨S, h19, L, Q, hp, hiE, b1, b2, b3, b4⟩ := A
  obtain ⟨M1, e1, f1, L1⟩ := r_tellLaw w hv hx T hiE S h19 b1 b2 b3 b4 hk
  have G1 := f1.h hv hx b3 b2
  have hr : f_X12_tellOne M = some M1 := by
    have ne : ∀ c, (20 ≤ c ∧ c ≤ 24) ∨ (29 ≤ c ∧ c ≤ 30) → ¬ nI (25 + x) = nI c := fun c h z => by
      have := nI_inj (by omega) (by omega) z
      omega
    unfold f_X12_tellOne
    rw [S.2.1, ag_n (by omega) (by omega), sb, (T i hiE).1, hk, if_neg (show ¬ nI (25 + x) = 20 from ne 20 (by omega)), if_neg (show ¬ nI (25 + x) = 21 from ne 21 (by omega)), if_neg (show ¬ nI (25 + x) = 22 from ne 22 (by omega)), if_neg (show ¬ nI (25 + x) = 23 from ne 23 (by omega)), if_neg (show ¬ nI (25 + x) = 24 from ne 24 (by omega)), if_neg (show ¬ nI (25 + x) = 29 from ne 29 (by omega)), if_neg (show ¬ nI (25 + x) = 30 from ne 30 (by omega)), sb, show (25 : Int32) = nI 25 from rfl, sub_n2 (by omega), show 25 + x - 25 = x by omega, lt_def, if_neg (nI_pos (by omega)), sb, show (28 : Int32) = nI 28 from rfl, if_pos (nI_le (show 25 + x ≤ 28 by omega) (by omega)), sb, if_pos (show M.1 67 13 ≤ 0 by rw [S.1]; decide)]
    exact e1
  rw [hr]
  cases h1 : lwHT K V x i with
  | error y => exact ⟨M1, rfl, G1, TP.er (by rw [hs, h1, eb_er]) ⟨L1.2 y h1, (f1.2.1 19 (by decide)).trans h19⟩⟩
  | ok r =>
    obtain ⟨⟨n', o1, o2, S1, Ls⟩, LM1, k91, k92, u1, u2, u3⟩ := L1.1 r h1
    have hlt : P i < P r.2.2 := by
      have key : ∀ k, i + k + 1 ≤ E → P i < P (i + k + 1) := by
        intro k
        induction k with
        | zero => intro h; exact mP i (by omega)
        | succ k ih => intro h; exact Nat.lt_trans (ih (by omega)) (mP (i + k + 1) (by omega))
      have := key (r.2.2 - i - 1) (by omega)
      rwa [show i + (r.2.2 - i - 1) + 1 = r.2.2 by omega] at this
    have qq : ∀ a, 77 ≤ a → a ≤ 90 → M1.1 a = M.1 a := fun a p q => f1.1 a (by omega) (by omega)
    refine ⟨M1, rfl, G1, TP.mk (τ := τ) (by rw [hs, h1, eb_ok]) ⟨S1, (f1.2.1 19 (by decide)).trans h19, ?_, ?_, fun z => Nat.lt_trans (hp z) hlt, u2, o2, by omega, by omega, u3⟩ ?_ (fun z => ?_) (fun k hk => ?_) u1⟩
    · unfold LFm at L ⊢
      rw [f1.2.1 15 (by decide), f1.2.1 16 (by decide)]
      exact L
    · unfold NMm at Q ⊢
      rw [f1.2.1 20 (by decide), f1.1 76 (by decide) (by decide), f1.2.2.2.2.2]
      exact Q
    · unfold CNm at C ⊢
      rw [qq 77 (by decide) (by decide), qq 78 (by decide) (by decide), qq 82 (by decide) (by decide), qq 86 (by decide) (by decide)]
      exact C
    · have q := Pc z
      unfold PCm at q ⊢
      rw [qq 88 (by decide) (by decide), qq 89 (by decide) (by decide), qq 90 (by decide) (by decide), qq 79 (by decide) (by decide), qq 80 (by decide) (by decide), qq 81 (by decide) (by decide), qq 83 (by decide) (by decide), qq 84 (by decide) (by decide), qq 85 (by decide) (by decide), qq 87 (by decide) (by decide)]
      exact q
    · by_cases e : k = x
      · subst e
        refine Or.inl ⟨g, k91, ?_, ?_, ?_⟩
        · show M1.1 92 (4 * v + k) = nI (g + (if k = k then r.1 else B k).length + 1)
          rw [if_pos rfl]
          exact k92
        · show g + (if k = k then r.1 else B k).length + 1 ≤ _
          rw [if_pos rfl]
          exact Nat.le_refl _
        · show LMs v g n' (if k = k then r.1 else B k) (if k = k then r.2.1 else W k) M1
          rw [if_pos rfl, if_pos rfl]
          exact Ls
      · rcases Lw k hk with ⟨f, c1, c2, c3, c4⟩ | ⟨c1, c2, c3⟩
        · refine Or.inl ⟨f, (f1.2.2.1 91 (Or.inl rfl) _ (by omega)).trans c1, ?_, ?_, ?_⟩
          · show M1.1 92 (4 * v + k) = nI (f + (if k = x then r.1 else B k).length + 1)
            rw [if_neg e, f1.2.2.1 92 (Or.inr rfl) _ (by omega)]
            exact c2
          · show f + (if k = x then r.1 else B k).length + 1 ≤ _
            rw [if_neg e]
            omega
          · show LMs v f n' (if k = x then r.1 else B k) (if k = x then r.2.1 else W k) M1
            rw [if_neg e, if_neg e]
            exact c4.of (fun a q p1 p2 hq => f1.2.2.2.1 a p1 p2 q (by omega)) (fun q hq => f1.2.2.2.2.1 q (Or.inl hq)) o1
        · refine Or.inr ⟨?_, ?_, ?_⟩
          · rw [f1.2.2.1 91 (Or.inl rfl) _ (by omega), f1.2.2.1 92 (Or.inr rfl) _ (by omega)]
            exact c1
          · show (if k = x then r.1 else B k) = []
            rw [if_neg e]
            exact c2
          · show (if k = x then r.2.1 else W k) = dfC k
            rw [if_neg e]
            exact c3
theorem r_other (w : wfK K P V E) (T : tokM K P V N E M) (I : RI P E v (i, τ, nm, B, W, lf) M) (ho : K i < 20 ∨ 30 < K i) : ∃ M', f_X12_tellOne M = some M' ∧ FH v M M' ∧ TP P E v i M' (.error (1, i)) := by
  have hE := w.1
  obtain ⟨g, n, A, C, Pc, Lw⟩ := I
  have A : AM P E v i g n nm lf M := A
  obtain ⟨S, h19, L, Q, hp, hiE, b1, b2, b3, b4⟩ := A
  have hK := (w.2.1 i hiE).1
  obtain ⟨M1, e1, -, D1, -⟩ := r_fail0 (H := 840) (n := n) (x := 1) w T hiE S.1 S.2.1 (by omega) (by omega)
  have F1 := fj_fail e1
  have e1' : f_X12_fail 1 M = some M1 := e1
  have D2 : DM 1 (P i) v M1 := ⟨D1, (F1.2.1 19 (by decide) (by decide) (by decide)).trans h19⟩
  have ne : ∀ c, 20 ≤ c ∧ c ≤ 30 → ¬ nI (K i) = nI c := fun c h z => by
    have := nI_inj (by omega) (by omega) z
    omega
  refine ⟨M1, ?_, F1.fk.h, TP.er rfl D2⟩
  unfold f_X12_tellOne
  rw [S.2.1, ag_n (by omega) (by omega), sb, (T i hiE).1, if_neg (show ¬ nI (K i) = 20 from ne 20 (by omega)), if_neg (show ¬ nI (K i) = 21 from ne 21 (by omega)), if_neg (show ¬ nI (K i) = 22 from ne 22 (by omega)), if_neg (show ¬ nI (K i) = 23 from ne 23 (by omega)), if_neg (show ¬ nI (K i) = 24 from ne 24 (by omega)), if_neg (show ¬ nI (K i) = 29 from ne 29 (by omega)), if_neg (show ¬ nI (K i) = 30 from ne 30 (by omega)), sb, lt_def, e1', sb, sb]
  rcases ho with h | h
  · have hneg : nI (K i) - 25 < 0 := by
      apply Int32.lt_iff_toInt_lt.mpr
      rw [show (25 : Int32) = nI 25 from rfl, pk_sub_toInt (by omega) (by omega)]
      show ((K i : Int) - (25 : Nat)) < 0
      omega
    rw [if_pos hneg, sb, if_neg D1.nl]
  · rw [show (25 : Int32) = nI 25 from rfl, sub_n2 (by omega), if_neg (nI_pos (by omega)), show (28 : Int32) = nI 28 from rfl, if_neg (nI_ge (by omega) (by omega)), sb, if_neg D1.nl]
theorem r_tell1 (hv : v ≤ 1) (w : wfK K P V E) (mP : ∀ a, a < E → P a < P (a + 1)) (T : tokM K P V N E M) (I : RI P E v (i, τ, nm, B, W, lf) M) (b : bdS τ nm) : ∃ M', f_X12_tellOne M = some M' ∧ FH v M M' ∧ TP P E v i M' (tlS K V P N (i, τ, nm, B, W, lf)) := by
  have hs : tlS K V P N (i, τ, nm, B, W, lf) = if K i = 20 then tlC K P N (i, τ, nm, B, W, lf) else if K i = 21 then tlR' K V P N (i, τ, nm, B, W, lf) else if K i = 22 then tlY K V P N (i, τ, nm, B, W, lf) else if K i = 23 then tlW K V P N (i, τ, nm, B, W, lf) else if K i = 24 then tlB K P N (i, τ, nm, B, W, lf) else if K i = 29 then tlI K V P 29 4 100 (i, τ, nm, B, W, lf) else if K i = 30 then tlI K V P 30 5 9999 (i, τ, nm, B, W, lf) else if 25 ≤ K i ∧ K i ≤ 28 then tlL K V (K i - 25) (i, τ, nm, B, W, lf) else .error (1, i) := rfl
  rw [hs]
  by_cases h20 : K i = 20
  · rw [if_pos h20]; exact r_corner hv w mP T I b h20
  rw [if_neg h20]
  by_cases h21 : K i = 21
  · rw [if_pos h21]; exact r_street hv w mP T I b h21
  rw [if_neg h21]
  by_cases h22 : K i = 22
  · rw [if_pos h22]; exact r_youngT hv w mP T I b h22
  rw [if_neg h22]
  by_cases h23 : K i = 23
  · rw [if_pos h23]; exact r_wordT hv w mP T I b h23
  rw [if_neg h23]
  by_cases h24 : K i = 24
  · rw [if_pos h24]; exact r_startT hv w mP T I h24
  rw [if_neg h24]
  by_cases h29 : K i = 29
  · rw [if_pos h29]; exact r_intT hv w mP T I h29 (Or.inl ⟨rfl, rfl, rfl, rfl⟩)
  rw [if_neg h29]
  by_cases h30 : K i = 30
  · rw [if_pos h30]; exact r_intT hv w mP T I h30 (Or.inr ⟨rfl, rfl, rfl, rfl⟩)
  rw [if_neg h30]
  by_cases hl : 25 ≤ K i ∧ K i ≤ 28
  · rw [if_pos hl]
    exact r_lawT hv w mP T I (by omega) (by omega)
  · rw [if_neg hl]
    exact r_other w T I (by omega)
end RTY

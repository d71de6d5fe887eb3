-- 89m.ctell3: pure: the young and words, as the class reads them
section CTY
variable {K V P : Nat → Nat} {N : Nat → Int64} {E t n i : Nat} {M M' : Mem} {nm : List (Int64 × Nat)} {lf : Nat × Nat} {τ : Nat → Nat → Nat} {B : Nat → List (Cd × Cd × Cd)} {W : Nat → Cd}
theorem lkM_10 {x y : Int64} : ∀ {nm : List (Int64 × Nat)}, lkM (nm ++ [(x, 10)]) y = lkM nm y
  | [] => by
    rw [List.nil_append, lkM_cons, if_neg (fun z => Nat.lt_irrefl 10 z.2)]
  | p :: nm => by
    rw [List.cons_append, lkM_cons, lkM_cons, lkM_10]
theorem cnS_10 {x : Int64} {j : Nat} : cnS P N (nm ++ [(x, 10)]) j lf = cnS P N nm j lf := by
  unfold cnS
  rw [lkM_10]
def cY4 (v7 v9 v11 : Int32) (M : Mem) : Option Mem := if M.1 23 7 = 0 then (rT M 23 5).bind fun t13 => (f_X9_addYoung t13 v7 v9 v11 M).bind fun M15 => some M15 else some M
def cY3 (v7 v9 : Int32) (M : Mem) : Option Mem := (f_X6_takeCorner M).bind fun t11 => cY4 v7 v9 t11.1 t11.2
def cY2 (v7 : Int32) (M : Mem) : Option Mem := (f_X6_takeInt (0 : Int32) (9 : Int32) M).bind fun t9 => cY3 v7 t9.1 t9.2
def cY1 (M : Mem) : Option Mem := (f_X6_takeInt (10 : Int32) (40 : Int32) M).bind fun t7 => cY2 t7.1 t7.2
theorem Y4D {e p : Nat} {a b c : Int32} (D : DQ t e p M) : cY4 a b c M = some M := by
  unfold cY4
  rw [if_neg D.1.n0]
theorem Y3D {e p : Nat} {a b : Int32} (ht : isT t) (D : DQ t e p M) : ∃ M', cY3 a b M = some M' ∧ FN M M' ∧ DQ t e p M' := by
  obtain ⟨v, M1, e1, f1, D1⟩ := c_takeCD ht D
  exact ⟨M1, by unfold cY3; rw [e1, sb, Y4D D1], f1, D1⟩
theorem Y2D {e p : Nat} {a : Int32} (ht : isT t) (D : DQ t e p M) : ∃ M', cY2 a M = some M' ∧ FN M M' ∧ DQ t e p M' := by
  obtain ⟨v, M1, e1, f1, D1⟩ := c_takeID (x := 0) (y := 9) ht D
  obtain ⟨M2, e2, f2, D2⟩ := Y3D (a := a) (b := v) ht D1
  exact ⟨M2, by unfold cY2; rw [e1, sb, e2], f1.tr f2, D2⟩
theorem Y1D {e p : Nat} (ht : isT t) (D : DQ t e p M) : ∃ M', cY1 M = some M' ∧ FN M M' ∧ DQ t e p M' := by
  obtain ⟨v, M1, e1, f1, D1⟩ := c_takeID (x := 10) (y := 40) ht D
  obtain ⟨M2, e2, f2, D2⟩ := Y2D (a := v) ht D1
  exact ⟨M2, by unfold cY1; rw [e1, sb, e2], f1.tr f2, D2⟩
/-- YOUNG -/
theorem c_youngT (ht : isT t) (w : wfK K P V E) (T : tokC K P V N E M) (I : CI E t (i, τ, nm, B, W, lf) M) (b : bdS τ nm) (hk : K i = 22) : ∃ M', (f_X6_readYoung M).bind (fun M' => f_X6_expect 59 M') = some M' ∧ FG t M M' ∧ TO P E t i M' (tlY K V P N (i, τ, nm, B, W, lf)) := by
  have l8 := isT_le ht
  have hE := w.1
  obtain ⟨n, A, C, Pc, Lw⟩ := I
  obtain ⟨b1, b2, b3, b4, b5⟩ := b
  have A : AV E t i n nm lf M := A
  have C : CNt t τ M := C
  have Pc : lf.1 = 0 → PCt t τ M := Pc
  have Lw : LWc t n B W M := Lw
  have hs : tlY K V P N (i, τ, nm, B, W, lf) = (if 6 ≤ tY τ then .error (2, i) else exK K 22 i : Except (Nat × Nat) Nat).bind fun i1 => (exK K 1 i1).bind fun i2 => (exK K 2 i2).bind fun i3 => (exK K 2 i3).bind fun i4 => (exK K 1 i4).bind fun i5 => (exK K 4 i5).bind fun i6 => .ok (i6, upT (upT (upT (upT τ 4 (tY τ) (V i2)) 5 (tY τ) (V i3)) 6 (tY τ) ((lkM nm (N i4)).getD 0)) 0 2 (tY τ + 1), nm ++ [(N i1, 10)], B, W, cnS P N nm i4 (inS V P 0 9 i3 (inS V P 10 40 i2 (lfU lf (lkN nm (N i1)) 3 (P i1))))) := by
    unfold tlY
    dsimp only
    by_cases h : 6 ≤ tY τ
    · rw [if_pos h, if_pos h]; rfl
    · rw [if_neg h, if_neg h]
  obtain ⟨M1, e1, f1, a1, a2⟩ := c_oneA (c := tY τ) (m := 6) ht w T A hk (by omega) (by omega) (by omega) (by omega)
  have e1' : f_X6_passOneOf (M.1 t 12) 6 M = some M1 := by rw [C.2.2.1]; exact e1
  have hr : ∀ {X}, f_X6_takeNewName (-1) M1 = some X → f_X6_readYoung M = cY1 X := fun {X} h => by
    unfold f_X6_readYoung
    rw [rT_n A.1.2.2.2 ht, sb, e1', sb, h, sb]
    rfl
  cases h1 : (if 6 ≤ tY τ then .error (2, i) else exK K 22 i : Except (Nat × Nat) Nat) with
  | error x =>
    rw [hr (c_takeND (a2 x h1))]
    obtain ⟨M2, e2, f2, D2⟩ := Y1D ht (a2 x h1)
    exact ⟨M2, fin_D e2 D2, (f1.tr f2).g, TO.er (by rw [hs, h1, eb_er]) D2⟩
  | ok i1 =>
    have A1 := a1 i1 h1
    have h10 : tY τ < 6 := by
      rcases Nat.lt_or_ge (tY τ) 6 with q | q
      · exact q
      · rw [if_pos q] at h1; cases h1
    have hn10 : ¬ 6 ≤ tY τ := by omega
    rw [if_neg hn10] at h1
    have j1 := (exK_ok h1).2.2
    obtain ⟨M2, e2, f2, p1, p2⟩ := c_takeN (c := 10) ht w (T.fn f1) A1 (by omega)
    have F2 := f1.tr f2
    rw [hr e2]
    cases h2 : exK K 1 i1 with
    | error x =>
      obtain ⟨M3, e3, f3, D3⟩ := Y1D ht (p2 x h2)
      exact ⟨M3, fin_D e3 D3, (F2.tr f3).g, TO.er (by rw [hs, if_neg hn10, h1, eb_ok, h2, eb_er]) D3⟩
    | ok i2 =>
      have A2 := p1 i2 h2
      have j2 := (exK_ok h2).2.2
      obtain ⟨v7, M3, e3, f3, q1, q2⟩ := c_takeI (a := 10) (b := 40) ht w (T.fn F2) A2 (by omega) (by omega)
      have e3' : f_X6_takeInt 10 40 M2 = some (v7, M3) := e3
      have F3 := F2.tr f3
      have r3 : cY1 M2 = cY2 v7 M3 := by unfold cY1; rw [e3', sb]
      rw [r3]
      cases h3 : exK K 2 i2 with
      | error x =>
        obtain ⟨M4, e4, f4, D4⟩ := Y2D (a := v7) ht (q2 x h3)
        exact ⟨M4, fin_D e4 D4, (F3.tr f4).g, TO.er (by rw [hs, if_neg hn10, h1, eb_ok, h2, eb_ok, h3, eb_er]) D4⟩
      | ok i3 =>
        obtain ⟨A3, hv7⟩ := q1 i3 h3
        have j3 := (exK_ok h3).2.2
        obtain ⟨v9, M4, e4, f4, g1, g2⟩ := c_takeI (a := 0) (b := 9) ht w (T.fn F3) A3 (by omega) (by omega)
        have e4' : f_X6_takeInt 0 9 M3 = some (v9, M4) := e4
        have F4 := F3.tr f4
        have r4 : cY2 v7 M3 = cY3 v7 v9 M4 := by unfold cY2; rw [e4', sb]
        rw [r4]
        cases h4 : exK K 2 i3 with
        | error x =>
          obtain ⟨M5, e5, f5, D5⟩ := Y3D (a := v7) (b := v9) ht (g2 x h4)
          exact ⟨M5, fin_D e5 D5, (F4.tr f5).g, TO.er (by rw [hs, if_neg hn10, h1, eb_ok, h2, eb_ok, h3, eb_ok, h4, eb_er]) D5⟩
        | ok i4 =>
          obtain ⟨A4, hv9⟩ := g1 i4 h4
          have j4 := (exK_ok h4).2.2
          obtain ⟨v11, M5, e5, f5, u1, u2⟩ := c_takeC ht w (T.fn F4) A4
          have F5 := F4.tr f5
          have r5 : cY3 v7 v9 M4 = cY4 v7 v9 v11 M5 := by unfold cY3; rw [e5, sb]
          rw [r5]
          cases h5 : exK K 1 i4 with
          | error x =>
            have D5 := u2 x h5
            exact ⟨M5, fin_D (Y4D D5) D5, F5.g, TO.er (by rw [hs, if_neg hn10, h1, eb_ok, h2, eb_ok, h3, eb_ok, h4, eb_ok, h5, eb_er]) D5⟩
          | ok i5 =>
            obtain ⟨A5, hv11⟩ := u1 i5 h5
            rw [cnS_10] at A5
            rw [lkM_10] at hv11
            have j5 := (exK_ok h5).2.2
            have c5 := C.q (F5.q ht)
            have A6 := (((A5.set (a := t + 4) (j := tY τ) (x := v7) (by omega) (by omega) (fun z => by omega)).set (a := t + 5) (j := tY τ) (x := v9) (by omega) (by omega) (fun z => by omega)).set (a := t + 6) (j := tY τ) (x := v11) (by omega) (by omega) (fun z => by omega)).set (a := t) (j := 12) (x := nI (tY τ + 1)) (by omega) (by omega) (fun _ => by decide)
            have G6 : FG t M5 (sI (sI (sI (sI M5 (t + 4) (tY τ) v7) (t + 5) (tY τ) v9) (t + 6) (tY τ) v11) t 12 (nI (tY τ + 1))) := (((FG.set (by omega)).tr (FG.set (by omega))).tr (FG.set (by omega))).tr (FG.set (by omega))
            have r6 : cY4 v7 v9 v11 M5 = some (sI (sI (sI (sI M5 (t + 4) (tY τ) v7) (t + 5) (tY τ) v9) (t + 6) (tY τ) v11) t 12 (nI (tY τ + 1))) := by
              unfold cY4
              rw [if_pos A5.1.1, rT_n A5.1.2.2.2 ht, sb, addY c5.2.2.1 h10, sb]
            have ct : ∀ j, j ≠ 12 → (sI (sI (sI (sI M5 (t + 4) (tY τ) v7) (t + 5) (tY τ) v9) (t + 6) (tY τ) v11) t 12 (nI (tY τ + 1))).1 t j = M5.1 t j := fun j hj => (sI_ix hj).trans ((congrFun (sI_cell (by omega)) j).trans ((congrFun (sI_cell (by omega)) j).trans (congrFun (sI_cell (by omega)) j)))
            obtain ⟨M7, e7, f7, t7⟩ := c_semi (K := K) (V := V) (P := P) (N := N) (i := i) (τ := upT (upT (upT (upT τ 4 (tY τ) (V i2)) 5 (tY τ) (V i3)) 6 (tY τ) ((lkM nm (N i4)).getD 0)) 0 2 (tY τ + 1)) (B := B) (W := W) (r := tlY K V P N (i, τ, nm, B, W, lf)) ht w ((T.fn F5).fg ht G6) A6 ⟨(ct 10 (by decide)).trans c5.1, (ct 11 (by decide)).trans c5.2.1, sI_same, (ct 13 (by decide)).trans c5.2.2.2⟩ (fun z => by
              obtain ⟨z1, z2⟩ := cnS_0 z
              obtain ⟨z3, -, -⟩ := inS_0 z1
              obtain ⟨z4, -, -⟩ := inS_0 z3
              obtain ⟨z5, z6⟩ := lfU_0 z4 (by omega)
              obtain ⟨q1, q2, q3, q4, q5, q6⟩ := (Pc z5).q (F5.q ht)
              have k11 := hv11 z1
              have ce : ∀ k, 1 ≤ k → k ≠ 4 → k ≠ 5 → k ≠ 6 → (sI (sI (sI (sI M5 (t + 4) (tY τ) v7) (t + 5) (tY τ) v9) (t + 6) (tY τ) v11) t 12 (nI (tY τ + 1))).1 (t + k) = M5.1 (t + k) := fun k hk _ _ _ => (sI_cell (by omega)).trans ((sI_cell (by omega)).trans ((sI_cell (by omega)).trans (sI_cell (by omega))))
              have c1 : ∀ j, (sI (sI (sI (sI M5 (t + 4) (tY τ) v7) (t + 5) (tY τ) v9) (t + 6) (tY τ) v11) t 12 (nI (tY τ + 1))).1 (t + 4) j = (sI M5 (t + 4) (tY τ) v7).1 (t + 4) j := fun j => (congrFun (sI_cell (by omega)) j).trans ((congrFun (sI_cell (by omega)) j).trans (congrFun (sI_cell (by omega)) j))
              have c2 : ∀ j, (sI (sI (sI (sI M5 (t + 4) (tY τ) v7) (t + 5) (tY τ) v9) (t + 6) (tY τ) v11) t 12 (nI (tY τ + 1))).1 (t + 5) j = (sI (sI M5 (t + 4) (tY τ) v7) (t + 5) (tY τ) v9).1 (t + 5) j := fun j => (congrFun (sI_cell (by omega)) j).trans (congrFun (sI_cell (by omega)) j)
              have c3 : ∀ j, (sI (sI (sI (sI M5 (t + 4) (tY τ) v7) (t + 5) (tY τ) v9) (t + 6) (tY τ) v11) t 12 (nI (tY τ + 1))).1 (t + 6) j = (sI (sI (sI M5 (t + 4) (tY τ) v7) (t + 5) (tY τ) v9) (t + 6) (tY τ) v11).1 (t + 6) j := fun j => congrFun (sI_cell (by omega)) j
              have e' : ∀ f k, f ≠ 0 → f ≠ 4 → f ≠ 5 → f ≠ 6 → upT (upT (upT (upT τ 4 (tY τ) (V i2)) 5 (tY τ) (V i3)) 6 (tY τ) ((lkM nm (N i4)).getD 0)) 0 2 (tY τ + 1) f k = τ f k := fun f k h0 h4 h5 h6 => (upT_f h0).trans ((upT_f h6).trans ((upT_f h5).trans (upT_f h4)))
              have e0 : ∀ k, k ≠ 2 → upT (upT (upT (upT τ 4 (tY τ) (V i2)) 5 (tY τ) (V i3)) 6 (tY τ) ((lkM nm (N i4)).getD 0)) 0 2 (tY τ + 1) 0 k = τ 0 k := fun k hk => (upT_k hk).trans ((upT_f (by decide)).trans ((upT_f (by decide)).trans (upT_f (by decide))))
              refine ⟨(ct 14 (by decide)).trans (q1.trans (congrArg nI (e0 6 (by decide)).symm)), (ct 15 (by decide)).trans (q2.trans (congrArg nI (e0 4 (by decide)).symm)), (ct 16 (by decide)).trans (q3.trans (congrArg nI (e0 5 (by decide)).symm)), fun s hs' => ?_, fun y hy => ?_, fun v hv => ?_⟩
              · have hs' : s < tS τ := Nat.lt_of_lt_of_eq hs' (e0 1 (by decide))
                rw [ce 1 (by omega) (by decide) (by decide) (by decide), ce 2 (by omega) (by decide) (by decide) (by decide), ce 3 (by omega) (by decide) (by decide) (by decide), e' 1 s (by decide) (by decide) (by decide) (by decide), e' 2 s (by decide) (by decide) (by decide) (by decide), e' 3 s (by decide) (by decide) (by decide) (by decide)]
                exact q4 s hs'
              · have hy : y < tY τ + 1 := hy
                rw [c1, c2, c3]
                by_cases e : y = tY τ
                · subst e
                  refine ⟨sI_same.trans ?_, sI_same.trans ?_, sI_same.trans ?_⟩
                  · rw [hv7]
                    simp [upT]
                  · rw [hv9]
                    simp [upT]
                  · rw [k11]
                    cases hl : lkM nm (N i4) with
                    | none => rw [hl] at z2; cases z2
                    | some c => simp [upT, cvO]
                · have u := q5 y (by omega)
                  have e'' : ∀ f, 1 ≤ f → upT (upT (upT (upT τ 4 (tY τ) (V i2)) 5 (tY τ) (V i3)) 6 (tY τ) ((lkM nm (N i4)).getD 0)) 0 2 (tY τ + 1) f y = τ f y := fun f hf => (upT_f (by omega)).trans ((upT_k e).trans ((upT_k e).trans (upT_k e)))
                  rw [e'' 4 (by omega), e'' 5 (by omega), e'' 6 (by omega)]
                  exact ⟨(sI_ix e).trans u.1, (sI_ix e).trans ((congrFun (sI_cell (by omega)) y).trans u.2.1), (sI_ix e).trans ((congrFun (sI_cell (by omega)) y).trans ((congrFun (sI_cell (by omega)) y).trans u.2.2))⟩
              · have hv : v < tW τ := Nat.lt_of_lt_of_eq hv (e0 3 (by decide))
                rw [ce 7 (by omega) (by decide) (by decide) (by decide), e' 7 v (by decide) (by decide) (by decide) (by decide)]
                exact q6 v hv) (((((Lw.q (F5.q ht)).set (by omega) (by omega)).set (by omega) (by omega)).set (by omega) (by omega)).set (by omega) (by omega)) r6 (by omega) (by rw [hs, if_neg hn10, h1, eb_ok, h2, eb_ok, h3, eb_ok, h4, eb_ok, h5, eb_ok])
            exact ⟨M7, e7, (F5.g.tr G6).tr f7.g, t7⟩
def cW2 (v7 : Int32) (M : Mem) : Option Mem := if M.1 23 7 = 0 then (rT M 23 5).bind fun t9 => (f_X9_addWord t9 v7 M).bind fun M11 => some M11 else some M
def cW1 (M : Mem) : Option Mem := (f_X6_takeInt (0 : Int32) (99 : Int32) M).bind fun t7 => cW2 t7.1 t7.2
theorem W2D {e p : Nat} {a : Int32} (D : DQ t e p M) : cW2 a M = some M := by
  unfold cW2
  rw [if_neg D.1.n0]
theorem W1D {e p : Nat} (ht : isT t) (D : DQ t e p M) : ∃ M', cW1 M = some M' ∧ FN M M' ∧ DQ t e p M' := by
  obtain ⟨v, M1, e1, f1, D1⟩ := c_takeID (x := 0) (y := 99) ht D
  exact ⟨M1, by unfold cW1; rw [e1, sb, W2D D1], f1, D1⟩
/-- WORD -/
theorem c_wordT (ht : isT t) (w : wfK K P V E) (T : tokC K P V N E M) (I : CI E t (i, τ, nm, B, W, lf) M) (b : bdS τ nm) (hk : K i = 23) : ∃ M', (f_X6_readWord M).bind (fun M' => f_X6_expect 59 M') = some M' ∧ FG t M M' ∧ TO P E t i M' (tlW K V P N (i, τ, nm, B, W, lf)) := by
  have l8 := isT_le ht
  have hE := w.1
  obtain ⟨n, A, C, Pc, Lw⟩ := I
  obtain ⟨b1, b2, b3, b4, b5⟩ := b
  have A : AV E t i n nm lf M := A
  have C : CNt t τ M := C
  have Pc : lf.1 = 0 → PCt t τ M := Pc
  have Lw : LWc t n B W M := Lw
  have hs : tlW K V P N (i, τ, nm, B, W, lf) = (if 5 ≤ tW τ then .error (2, i) else exK K 23 i : Except (Nat × Nat) Nat).bind fun i1 => (exK K 1 i1).bind fun i2 => (exK K 2 i2).bind fun i3 => (exK K 4 i3).bind fun i4 => .ok (i4, upT (upT τ 7 (tW τ) (V i2)) 0 3 (tW τ + 1), nm ++ [(N i1, 10)], B, W, inS V P 0 99 i2 (lfU lf (lkN nm (N i1)) 3 (P i1))) := by
    unfold tlW
    dsimp only
    by_cases h : 5 ≤ tW τ
    · rw [if_pos h, if_pos h]; rfl
    · rw [if_neg h, if_neg h]
  obtain ⟨M1, e1, f1, a1, a2⟩ := c_oneA (c := tW τ) (m := 5) ht w T A hk (by omega) (by omega) (by omega) (by omega)
  have e1' : f_X6_passOneOf (M.1 t 13) 5 M = some M1 := by rw [C.2.2.2]; exact e1
  have hr : ∀ {X}, f_X6_takeNewName (-1) M1 = some X → f_X6_readWord M = cW1 X := fun {X} h => by
    unfold f_X6_readWord
    rw [rT_n A.1.2.2.2 ht, sb, e1', sb, h, sb]
    rfl
  cases h1 : (if 5 ≤ tW τ then .error (2, i) else exK K 23 i : Except (Nat × Nat) Nat) with
  | error x =>
    rw [hr (c_takeND (a2 x h1))]
    obtain ⟨M2, e2, f2, D2⟩ := W1D ht (a2 x h1)
    exact ⟨M2, fin_D e2 D2, (f1.tr f2).g, TO.er (by rw [hs, h1, eb_er]) D2⟩
  | ok i1 =>
    have A1 := a1 i1 h1
    have h10 : tW τ < 5 := by
      rcases Nat.lt_or_ge (tW τ) 5 with q | q
      · exact q
      · rw [if_pos q] at h1; cases h1
    have hn10 : ¬ 5 ≤ tW τ := by omega
    rw [if_neg hn10] at h1
    have j1 := (exK_ok h1).2.2
    obtain ⟨M2, e2, f2, p1, p2⟩ := c_takeN (c := 10) ht w (T.fn f1) A1 (by omega)
    have F2 := f1.tr f2
    rw [hr e2]
    cases h2 : exK K 1 i1 with
    | error x =>
      obtain ⟨M3, e3, f3, D3⟩ := W1D ht (p2 x h2)
      exact ⟨M3, fin_D e3 D3, (F2.tr f3).g, TO.er (by rw [hs, if_neg hn10, h1, eb_ok, h2, eb_er]) D3⟩
    | ok i2 =>
      have A2 := p1 i2 h2
      have j2 := (exK_ok h2).2.2
      obtain ⟨v7, M3, e3, f3, q1, q2⟩ := c_takeI (a := 0) (b := 99) ht w (T.fn F2) A2 (by omega) (by omega)
      have e3' : f_X6_takeInt 0 99 M2 = some (v7, M3) := e3
      have F3 := F2.tr f3
      have r3 : cW1 M2 = cW2 v7 M3 := by unfold cW1; rw [e3', sb]
      rw [r3]
      cases h3 : exK K 2 i2 with
      | error x =>
        have D3 := q2 x h3
        exact ⟨M3, fin_D (W2D D3) D3, F3.g, TO.er (by rw [hs, if_neg hn10, h1, eb_ok, h2, eb_ok, h3, eb_er]) D3⟩
      | ok i3 =>
        obtain ⟨A5, hv7⟩ := q1 i3 h3
        have j3 := (exK_ok h3).2.2
        have c5 := C.q (F3.q ht)
        have A6 := (A5.set (a := t + 7) (j := tW τ) (x := v7) (by omega) (by omega) (fun z => by omega)).set (a := t) (j := 13) (x := nI (tW τ + 1)) (by omega) (by omega) (fun _ => by decide)
        have G6 : FG t M3 (sI (sI M3 (t + 7) (tW τ) v7) t 13 (nI (tW τ + 1))) := (FG.set (by omega)).tr (FG.set (by omega))
        have r6 : cW2 v7 M3 = some (sI (sI M3 (t + 7) (tW τ) v7) t 13 (nI (tW τ + 1))) := by
          unfold cW2
          rw [if_pos A5.1.1, rT_n A5.1.2.2.2 ht, sb, addW c5.2.2.2 h10, sb]
        have ct : ∀ j, j ≠ 13 → (sI (sI M3 (t + 7) (tW τ) v7) t 13 (nI (tW τ + 1))).1 t j = M3.1 t j := fun j hj => (sI_ix hj).trans (congrFun (sI_cell (by omega)) j)
        obtain ⟨M7, e7, f7, t7⟩ := c_semi (K := K) (V := V) (P := P) (N := N) (i := i) (τ := upT (upT τ 7 (tW τ) (V i2)) 0 3 (tW τ + 1)) (B := B) (W := W) (r := tlW K V P N (i, τ, nm, B, W, lf)) ht w ((T.fn F3).fg ht G6) A6 ⟨(ct 10 (by decide)).trans c5.1, (ct 11 (by decide)).trans c5.2.1, (ct 12 (by decide)).trans c5.2.2.1, sI_same⟩ (fun z => by
          obtain ⟨z1, -, -⟩ := inS_0 z
          obtain ⟨z5, z6⟩ := lfU_0 z1 (by omega)
          obtain ⟨q1, q2, q3, q4, q5, q6⟩ := (Pc z5).q (F3.q ht)
          have ce : ∀ k, 1 ≤ k → k ≠ 7 → (sI (sI M3 (t + 7) (tW τ) v7) t 13 (nI (tW τ + 1))).1 (t + k) = M3.1 (t + k) := fun k hk _ => (sI_cell (by omega)).trans (sI_cell (by omega))
          have c1 : ∀ j, (sI (sI M3 (t + 7) (tW τ) v7) t 13 (nI (tW τ + 1))).1 (t + 7) j = (sI M3 (t + 7) (tW τ) v7).1 (t + 7) j := fun j => congrFun (sI_cell (by omega)) j
          have e' : ∀ f k, f ≠ 0 → f ≠ 7 → upT (upT τ 7 (tW τ) (V i2)) 0 3 (tW τ + 1) f k = τ f k := fun f k h0 h4 => (upT_f h0).trans (upT_f h4)
          have e0 : ∀ k, k ≠ 3 → upT (upT τ 7 (tW τ) (V i2)) 0 3 (tW τ + 1) 0 k = τ 0 k := fun k hk => (upT_k hk).trans (upT_f (by decide))
          refine ⟨(ct 14 (by decide)).trans (q1.trans (congrArg nI (e0 6 (by decide)).symm)), (ct 15 (by decide)).trans (q2.trans (congrArg nI (e0 4 (by decide)).symm)), (ct 16 (by decide)).trans (q3.trans (congrArg nI (e0 5 (by decide)).symm)), fun s hs' => ?_, fun y hy => ?_, fun v hv => ?_⟩
          · have hs' : s < tS τ := Nat.lt_of_lt_of_eq hs' (e0 1 (by decide))
            rw [ce 1 (by omega) (by decide), ce 2 (by omega) (by decide), ce 3 (by omega) (by decide), e' 1 s (by decide) (by decide), e' 2 s (by decide) (by decide), e' 3 s (by decide) (by decide)]
            exact q4 s hs'
          · have hy : y < tY τ := Nat.lt_of_lt_of_eq hy (e0 2 (by decide))
            rw [ce 4 (by omega) (by decide), ce 5 (by omega) (by decide), ce 6 (by omega) (by decide), e' 4 y (by decide) (by decide), e' 5 y (by decide) (by decide), e' 6 y (by decide) (by decide)]
            exact q5 y hy
          · have hv : v < tW τ + 1 := hv
            rw [c1]
            by_cases e : v = tW τ
            · subst e
              refine sI_same.trans ?_
              rw [hv7]
              simp [upT]
            · have u := q6 v (by omega)
              rw [show upT (upT τ 7 (tW τ) (V i2)) 0 3 (tW τ + 1) 7 v = τ 7 v from (upT_f (by decide)).trans (upT_k e)]
              exact (sI_ix e).trans u) (((Lw.q (F3.q ht)).set (by omega) (by omega)).set (by omega) (by omega)) r6 (by omega) (by rw [hs, if_neg hn10, h1, eb_ok, h2, eb_ok, h3, eb_ok])
        exact ⟨M7, e7, (F3.g.tr G6).tr f7.g, t7⟩
end CTY

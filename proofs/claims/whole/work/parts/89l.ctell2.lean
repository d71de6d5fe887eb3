-- 89l.ctell2: pure: streets, the young and words, as the class reads them
section CTS
variable {K V P : Nat → Nat} {N : Nat → Int64} {E t n i : Nat} {M M' : Mem} {nm : List (Int64 × Nat)} {lf : Nat × Nat} {τ : Nat → Nat → Nat} {B : Nat → List (Cd × Cd × Cd)} {W : Nat → Cd}
def cR4 (v5 v8 v15 : Int32) (M : Mem) : Option Mem := if M.1 23 7 = 0 then (rT M 23 5).bind fun t17 => (f_X9_addStreet t17 v5 v8 v15 M).bind fun M19 => some M19 else some M
def cR3 (v5 v6 v8 : Int32) (M : Mem) : Option Mem := (if v5 = v8 then if v5 = (-1 : Int32) then some M else (f_X6_failLater (3 : Int32) v6 M).bind fun M13 => some M13 else some M).bind fun t9 => (f_X6_takeInt (1 : Int32) (99 : Int32) t9).bind fun t15 => cR4 v5 v8 t15.1 t15.2
def cR2 (v5 : Int32) (M : Mem) : Option Mem := (ag M 26 401 (M.1 23 6)).bind fun v6 => (f_X6_takeCorner M).bind fun t8 => cR3 v5 v6 t8.1 t8.2
def cR1 (M : Mem) : Option Mem := (f_X6_takeCorner M).bind fun t5 => cR2 t5.1 t5.2
theorem R4D {e p : Nat} {a b c : Int32} (D : DQ t e p M) : cR4 a b c M = some M := by
  unfold cR4
  rw [if_neg D.1.n0]
theorem R3D {e p : Nat} {a b c : Int32} (ht : isT t) (D : DQ t e p M) : ∃ M', cR3 a b c M = some M' ∧ FN M M' ∧ DQ t e p M' := by
  obtain ⟨M1, e1, k1⟩ := c_laterA 3 b M
  have go : ∀ {M2 : Mem}, FN M M2 → DQ t e p M2 → ∃ M', ((some M2).bind fun t9 => (f_X6_takeInt (1 : Int32) (99 : Int32) t9).bind fun t15 => cR4 a c t15.1 t15.2) = some M' ∧ FN M M' ∧ DQ t e p M' := fun {M2} f2 D2 => by
    obtain ⟨v, M3, e3, f3, D3⟩ := c_takeID (x := 1) (y := 99) ht D2
    exact ⟨M3, by rw [sb, e3, sb, R4D D3], f2.tr f3, D3⟩
  unfold cR3
  rw [e1, sb]
  by_cases h : a = c
  · rw [if_pos h]
    by_cases h' : a = -1
    · rw [if_pos h']; exact go FN.rf D
    · rw [if_neg h']; exact go k1.ft.fn (D.kl ht k1)
  · rw [if_neg h]; exact go FN.rf D
theorem R2D {e p : Nat} {a : Int32} (ht : isT t) (D : DQ t e p M) : ∃ M', cR2 a M = some M' ∧ FN M M' ∧ DQ t e p M' := by
  obtain ⟨v, M1, e1, f1, D1⟩ := c_takeCD ht D
  obtain ⟨z, hz, h6⟩ := D.1.2.2.1
  obtain ⟨M2, e2, f2, D2⟩ := R3D (a := a) (b := M.1 26 z) (c := v) ht D1
  exact ⟨M2, by unfold cR2; rw [h6, ag_n (by omega) (by omega), sb, e1, sb, e2], f1.tr f2, D2⟩
theorem R1D {e p : Nat} (ht : isT t) (D : DQ t e p M) : ∃ M', cR1 M = some M' ∧ FN M M' ∧ DQ t e p M' := by
  obtain ⟨v, M1, e1, f1, D1⟩ := c_takeCD ht D
  obtain ⟨M2, e2, f2, D2⟩ := R2D (a := v) ht D1
  exact ⟨M2, by unfold cR1; rw [e1, sb, e2], f1.tr f2, D2⟩
theorem cvO_in {x : Int64} {c : Nat} (h : lkM nm x = some c) : cvO (lkM nm x) = nI c ∧ c < 10 := by
  rw [h]
  exact ⟨rfl, (lkM_in h).1⟩
theorem m1_ne {c : Nat} (h : c < 10000) : ¬ nI c = -1 := fun z => nI_pos (n := c) (by omega) (by rw [z]; decide)
/-- the two corners of a street: are they one? -/
theorem c_same {i3 : Nat} {v5 v8 : Int32} {x y : Int64} {lf2 : Nat × Nat} {p : Nat} (ht : isT t) (A : AV E t i3 n nm lf2 M) (h5 : lf2.1 = 0 → v5 = cvO (lkM nm x)) (h8 : lf2.1 = 0 → v8 = cvO (lkM nm y)) (hx : lf2.1 = 0 → (lkM nm x).isNone = false) (hy : lf2.1 = 0 → (lkM nm y).isNone = false) : ∃ M', (if v5 = v8 then if v5 = (-1 : Int32) then some M else (f_X6_failLater (3 : Int32) (nI p) M).bind fun M13 => some M13 else some M) = some M' ∧ FN M M' ∧ AV E t i3 n nm (lfU lf2 ((lkM nm x).isSome && (lkM nm x == lkM nm y)) 3 p) M' := by
  obtain ⟨M1, e1, k1⟩ := c_laterA (nI 3) (nI p) M
  have e1' : f_X6_failLater 3 (nI p) M = some M1 := e1
  rw [e1', sb]
  by_cases z : lf2.1 = 0
  · have A1 := A.later ht (by omega) (by omega) e1 k1
    have q5 := h5 z
    have q8 := h8 z
    have qx := hx z
    have qy := hy z
    cases hlx : lkM nm x with
    | none => rw [hlx] at qx; cases qx
    | some a =>
      cases hly : lkM nm y with
      | none => rw [hly] at qy; cases qy
      | some b =>
        have la := (lkM_in hlx).1
        have lb := (lkM_in hly).1
        rw [hlx] at q5
        rw [hly] at q8
        have q5 : v5 = nI a := q5
        have q8 : v8 = nI b := q8
        rw [q5, q8]
        by_cases e : a = b
        · rw [e, if_pos rfl, if_neg (m1_ne (by omega)), show ((some b : Option Nat).isSome && (some b == some b)) = true by simp]
          exact ⟨M1, rfl, k1.ft.fn, A1⟩
        · rw [if_neg (fun z => e (nI_inj (by omega) (by omega) z)), show ((some a : Option Nat).isSome && (some a == some b)) = false by simp [e], lfU_f]
          exact ⟨M, rfl, FN.rf, A⟩
  · rw [lfU_n z]
    have A1 : AV E t i3 n nm lf2 M1 := by
      have := A.later ht (by omega) (by omega) e1 k1
      rwa [lfU_n z] at this
    split
    · split
      · exact ⟨M, rfl, FN.rf, A⟩
      · exact ⟨M1, rfl, k1.ft.fn, A1⟩
    · exact ⟨M, rfl, FN.rf, A⟩
theorem cnS_0 {x : Nat} (h : (cnS P N nm x lf).1 = 0) : lf.1 = 0 ∧ (lkM nm (N x)).isNone = false := lfU_0 h (by omega)
theorem inS_0 {a b x : Nat} (h : (inS V P a b x lf).1 = 0) : lf.1 = 0 ∧ a ≤ V x ∧ V x ≤ b := by
  obtain ⟨h1, h2⟩ := lfU_0 h (by omega)
  rw [Bool.or_eq_false_iff] at h2
  have q1 := of_decide_eq_false h2.1
  have q2 := of_decide_eq_false h2.2
  exact ⟨h1, by omega, by omega⟩
/-- STREET -/
theorem c_street (ht : isT t) (w : wfK K P V E) (T : tokC K P V N E M) (I : CI E t (i, τ, nm, B, W, lf) M) (b : bdS τ nm) (hk : K i = 21) : ∃ M', (f_X6_readStreet M).bind (fun M' => f_X6_expect 59 M') = some M' ∧ FG t M M' ∧ TO P E t i M' (tlR' K V P N (i, τ, nm, B, W, lf)) := by
  have l8 := isT_le ht
  have hE := w.1
  obtain ⟨n, A, C, Pc, Lw⟩ := I
  obtain ⟨b1, b2, b3, b4, b5⟩ := b
  have A : AV E t i n nm lf M := A
  have C : CNt t τ M := C
  have Pc : lf.1 = 0 → PCt t τ M := Pc
  have Lw : LWc t n B W M := Lw
  have hs : tlR' K V P N (i, τ, nm, B, W, lf) = (if 10 ≤ tS τ then .error (2, i) else exK K 21 i : Except (Nat × Nat) Nat).bind fun i1 => (exK K 1 i1).bind fun i2 => (exK K 1 i2).bind fun i3 => (exK K 2 i3).bind fun i4 => (exK K 4 i4).bind fun i5 => .ok (i5, upT (upT (upT (upT τ 1 (tS τ) ((lkM nm (N i1)).getD 0)) 2 (tS τ) ((lkM nm (N i2)).getD 0)) 3 (tS τ) (V i3)) 0 1 (tS τ + 1), nm, B, W, inS V P 1 99 i3 (lfU (cnS P N nm i2 (cnS P N nm i1 lf)) ((lkM nm (N i1)).isSome && (lkM nm (N i1) == lkM nm (N i2))) 3 (P i2))) := by
    unfold tlR'
    dsimp only
    by_cases h : 10 ≤ tS τ
    · rw [if_pos h, if_pos h]; rfl
    · rw [if_neg h, if_neg h]
  obtain ⟨M1, e1, f1, a1, a2⟩ := c_oneA (c := tS τ) (m := 10) ht w T A hk (by omega) (by omega) (by omega) (by omega)
  have e1' : f_X6_passOneOf (M.1 t 11) 10 M = some M1 := by rw [C.2.1]; exact e1
  have hr : f_X6_readStreet M = cR1 M1 := by
    unfold f_X6_readStreet
    rw [rT_n A.1.2.2.2 ht, sb, e1', sb]
    rfl
  rw [hr]
  cases h1 : (if 10 ≤ tS τ then .error (2, i) else exK K 21 i : Except (Nat × Nat) Nat) with
  | error x =>
    obtain ⟨M2, e2, f2, D2⟩ := R1D ht (a2 x h1)
    exact ⟨M2, fin_D e2 D2, (f1.tr f2).g, TO.er (by rw [hs, h1, eb_er]) D2⟩
  | ok i1 =>
    have A1 := a1 i1 h1
    have h10 : tS τ < 10 := by
      rcases Nat.lt_or_ge (tS τ) 10 with q | q
      · exact q
      · rw [if_pos q] at h1; cases h1
    have hn10 : ¬ 10 ≤ tS τ := by omega
    rw [if_neg hn10] at h1
    have j1 := (exK_ok h1).2.2
    obtain ⟨v5, M2, e2, f2, p1, p2⟩ := c_takeC ht w (T.fn f1) A1
    have F2 := f1.tr f2
    have r2 : cR1 M1 = cR2 v5 M2 := by unfold cR1; rw [e2, sb]
    rw [r2]
    cases h2 : exK K 1 i1 with
    | error x =>
      obtain ⟨M3, e3, f3, D3⟩ := R2D (a := v5) ht (p2 x h2)
      exact ⟨M3, fin_D e3 D3, (F2.tr f3).g, TO.er (by rw [hs, if_neg hn10, h1, eb_ok, h2, eb_er]) D3⟩
    | ok i2 =>
      obtain ⟨A2, hv5⟩ := p1 i2 h2
      have j2 := (exK_ok h2).2.2
      have T2 := T.fn F2
      obtain ⟨v8, M3, e3, f3, q1, q2⟩ := c_takeC ht w T2 A2
      have F3 := F2.tr f3
      have r3 : cR2 v5 M2 = cR3 v5 (nI (P i2)) v8 M3 := by
        have := A2.2.2.2.2.1
        unfold cR2
        rw [A2.1.2.1, ag_n (by omega) (by omega), sb, (T2 i2 this).2.1, e3, sb]
      rw [r3]
      cases h3 : exK K 1 i2 with
      | error x =>
        obtain ⟨M4, e4, f4, D4⟩ := R3D (a := v5) (b := nI (P i2)) (c := v8) ht (q2 x h3)
        exact ⟨M4, fin_D e4 D4, (F3.tr f4).g, TO.er (by rw [hs, if_neg hn10, h1, eb_ok, h2, eb_ok, h3, eb_er]) D4⟩
      | ok i3 =>
        obtain ⟨A3, hv8⟩ := q1 i3 h3
        have j3 := (exK_ok h3).2.2
        obtain ⟨M4, e4, f4, A4⟩ := c_same (v5 := v5) (v8 := v8) (x := N i1) (y := N i2) (p := P i2) ht A3 (fun z => hv5 (cnS_0 (cnS_0 z).1).1) (fun z => hv8 (cnS_0 z).1) (fun z => (cnS_0 (cnS_0 z).1).2) (fun z => (cnS_0 z).2)
        have F4 := F3.tr f4
        obtain ⟨v15, M5, e5, f5, u1, u2⟩ := c_takeI (a := 1) (b := 99) ht w (T.fn F4) A4 (by omega) (by omega)
        have e5' : f_X6_takeInt 1 99 M4 = some (v15, M5) := e5
        have F5 := F4.tr f5
        have r5 : cR3 v5 (nI (P i2)) v8 M3 = cR4 v5 v8 v15 M5 := by unfold cR3; rw [e4, sb, e5', sb]
        rw [r5]
        cases h4 : exK K 2 i3 with
        | error x =>
          have D5 := u2 x h4
          exact ⟨M5, fin_D (R4D D5) D5, F5.g, TO.er (by rw [hs, if_neg hn10, h1, eb_ok, h2, eb_ok, h3, eb_ok, h4, eb_er]) D5⟩
        | ok i4 =>
          obtain ⟨A5, hv15⟩ := u1 i4 h4
          have j4 := (exK_ok h4).2.2
          have c5 := C.q (F5.q ht)
          have A6 := (((A5.set (a := t + 1) (j := tS τ) (x := v5) (by omega) (by omega) (fun z => by omega)).set (a := t + 2) (j := tS τ) (x := v8) (by omega) (by omega) (fun z => by omega)).set (a := t + 3) (j := tS τ) (x := v15) (by omega) (by omega) (fun z => by omega)).set (a := t) (j := 11) (x := nI (tS τ + 1)) (by omega) (by omega) (fun _ => by decide)
          have G6 : FG t M5 (sI (sI (sI (sI M5 (t + 1) (tS τ) v5) (t + 2) (tS τ) v8) (t + 3) (tS τ) v15) t 11 (nI (tS τ + 1))) := (((FG.set (by omega)).tr (FG.set (by omega))).tr (FG.set (by omega))).tr (FG.set (by omega))
          have r6 : cR4 v5 v8 v15 M5 = some (sI (sI (sI (sI M5 (t + 1) (tS τ) v5) (t + 2) (tS τ) v8) (t + 3) (tS τ) v15) t 11 (nI (tS τ + 1))) := by
            unfold cR4
            rw [if_pos A5.1.1, rT_n A5.1.2.2.2 ht, sb, addS c5.2.1 h10, sb]
          obtain ⟨M7, e7, f7, t7⟩ := c_semi (K := K) (V := V) (P := P) (N := N) (i := i) (τ := upT (upT (upT (upT τ 1 (tS τ) ((lkM nm (N i1)).getD 0)) 2 (tS τ) ((lkM nm (N i2)).getD 0)) 3 (tS τ) (V i3)) 0 1 (tS τ + 1)) (B := B) (W := W) (r := tlR' K V P N (i, τ, nm, B, W, lf)) ht w ((T.fn F5).fg ht G6) A6 ⟨(sI_ix (by decide)).trans ((congrFun (sI_cell (by omega)) 10).trans ((congrFun (sI_cell (by omega)) 10).trans ((congrFun (sI_cell (by omega)) 10).trans c5.1))), sI_same, (sI_ix (by decide)).trans ((congrFun (sI_cell (by omega)) 12).trans ((congrFun (sI_cell (by omega)) 12).trans ((congrFun (sI_cell (by omega)) 12).trans c5.2.2.1))), (sI_ix (by decide)).trans ((congrFun (sI_cell (by omega)) 13).trans ((congrFun (sI_cell (by omega)) 13).trans ((congrFun (sI_cell (by omega)) 13).trans c5.2.2.2)))⟩ (fun z => by
            obtain ⟨z1, z2, z3⟩ := inS_0 z
            obtain ⟨z4, z5⟩ := lfU_0 z1 (by omega)
            obtain ⟨z6, z7⟩ := cnS_0 z4
            obtain ⟨z8, z9⟩ := cnS_0 z6
            obtain ⟨q1, q2, q3, q4, q5, q6⟩ := (Pc z8).q (F5.q ht)
            have k5 := hv5 z8
            have k8 := hv8 z6
            have ct : ∀ j, j ≠ 11 → (sI (sI (sI (sI M5 (t + 1) (tS τ) v5) (t + 2) (tS τ) v8) (t + 3) (tS τ) v15) t 11 (nI (tS τ + 1))).1 t j = M5.1 t j := fun j hj => (sI_ix hj).trans ((congrFun (sI_cell (by omega)) j).trans ((congrFun (sI_cell (by omega)) j).trans (congrFun (sI_cell (by omega)) j)))
            have ce : ∀ k, 4 ≤ k → (sI (sI (sI (sI M5 (t + 1) (tS τ) v5) (t + 2) (tS τ) v8) (t + 3) (tS τ) v15) t 11 (nI (tS τ + 1))).1 (t + k) = M5.1 (t + k) := fun k hk => (sI_cell (by omega)).trans ((sI_cell (by omega)).trans ((sI_cell (by omega)).trans (sI_cell (by omega))))
            have c1 : ∀ j, (sI (sI (sI (sI M5 (t + 1) (tS τ) v5) (t + 2) (tS τ) v8) (t + 3) (tS τ) v15) t 11 (nI (tS τ + 1))).1 (t + 1) j = (sI M5 (t + 1) (tS τ) v5).1 (t + 1) j := fun j => (congrFun (sI_cell (by omega)) j).trans ((congrFun (sI_cell (by omega)) j).trans (congrFun (sI_cell (by omega)) j))
            have c2 : ∀ j, (sI (sI (sI (sI M5 (t + 1) (tS τ) v5) (t + 2) (tS τ) v8) (t + 3) (tS τ) v15) t 11 (nI (tS τ + 1))).1 (t + 2) j = (sI (sI M5 (t + 1) (tS τ) v5) (t + 2) (tS τ) v8).1 (t + 2) j := fun j => (congrFun (sI_cell (by omega)) j).trans (congrFun (sI_cell (by omega)) j)
            have c3 : ∀ j, (sI (sI (sI (sI M5 (t + 1) (tS τ) v5) (t + 2) (tS τ) v8) (t + 3) (tS τ) v15) t 11 (nI (tS τ + 1))).1 (t + 3) j = (sI (sI (sI M5 (t + 1) (tS τ) v5) (t + 2) (tS τ) v8) (t + 3) (tS τ) v15).1 (t + 3) j := fun j => congrFun (sI_cell (by omega)) j
            refine ⟨?_, ?_, ?_, fun s hs => ?_, fun y hy => ?_, fun v hv => ?_⟩
            · rw [ct 14 (by decide), show upT (upT (upT (upT τ 1 (tS τ) ((lkM nm (N i1)).getD 0)) 2 (tS τ) ((lkM nm (N i2)).getD 0)) 3 (tS τ) (V i3)) 0 1 (tS τ + 1) 0 6 = τ 0 6 by simp [upT]]
              exact q1
            · rw [ct 15 (by decide), show tD (upT (upT (upT (upT τ 1 (tS τ) ((lkM nm (N i1)).getD 0)) 2 (tS τ) ((lkM nm (N i2)).getD 0)) 3 (tS τ) (V i3)) 0 1 (tS τ + 1)) = tD τ by simp [upT]]
              exact q2
            · rw [ct 16 (by decide), show tE (upT (upT (upT (upT τ 1 (tS τ) ((lkM nm (N i1)).getD 0)) 2 (tS τ) ((lkM nm (N i2)).getD 0)) 3 (tS τ) (V i3)) 0 1 (tS τ + 1)) = tE τ by simp [upT]]
              exact q3
            · have hs : s < tS τ + 1 := hs
              rw [c1, c2, c3]
              by_cases e : s = tS τ
              · subst e
                refine ⟨sI_same.trans ?_, sI_same.trans ?_, sI_same.trans ?_⟩
                · rw [k5]
                  cases hl : lkM nm (N i1) with
                  | none => rw [hl] at z9; cases z9
                  | some c => simp [upT, cvO]
                · rw [k8]
                  cases hl : lkM nm (N i2) with
                  | none => rw [hl] at z7; cases z7
                  | some c => simp [upT, cvO]
                · rw [hv15]
                  simp [upT]
              · have u := q4 s (by omega)
                have e' : ∀ f, 1 ≤ f → upT (upT (upT (upT τ 1 (tS τ) ((lkM nm (N i1)).getD 0)) 2 (tS τ) ((lkM nm (N i2)).getD 0)) 3 (tS τ) (V i3)) 0 1 (tS τ + 1) f s = τ f s := fun f hf => (upT_f (by omega)).trans ((upT_k e).trans ((upT_k e).trans (upT_k e)))
                rw [e' 1 (by omega), e' 2 (by omega), e' 3 (by omega)]
                exact ⟨(sI_ix e).trans u.1, (sI_ix e).trans ((congrFun (sI_cell (by omega)) s).trans u.2.1), (sI_ix e).trans ((congrFun (sI_cell (by omega)) s).trans ((congrFun (sI_cell (by omega)) s).trans u.2.2))⟩
            · have e' : ∀ f k, 4 ≤ f → upT (upT (upT (upT τ 1 (tS τ) ((lkM nm (N i1)).getD 0)) 2 (tS τ) ((lkM nm (N i2)).getD 0)) 3 (tS τ) (V i3)) 0 1 (tS τ + 1) f k = τ f k := fun f k hf => (upT_f (by omega)).trans ((upT_f (by omega)).trans ((upT_f (by omega)).trans (upT_f (by omega))))
              rw [ce 4 (by omega), ce 5 (by omega), ce 6 (by omega), e' 4 y (by omega), e' 5 y (by omega), e' 6 y (by omega)]
              exact q5 y (by simpa [upT] using hy)
            · have e' : ∀ f k, 4 ≤ f → upT (upT (upT (upT τ 1 (tS τ) ((lkM nm (N i1)).getD 0)) 2 (tS τ) ((lkM nm (N i2)).getD 0)) 3 (tS τ) (V i3)) 0 1 (tS τ + 1) f k = τ f k := fun f k hf => (upT_f (by omega)).trans ((upT_f (by omega)).trans ((upT_f (by omega)).trans (upT_f (by omega))))
              rw [ce 7 (by omega), e' 7 v (by omega)]
              exact q6 v (by simpa [upT] using hv)) (((((Lw.q (F5.q ht)).set (by omega) (by omega)).set (by omega) (by omega)).set (by omega) (by omega)).set (by omega) (by omega)) r6 (by omega) (by rw [hs, if_neg hn10, h1, eb_ok, h2, eb_ok, h3, eb_ok, h4, eb_ok])
          exact ⟨M7, e7, (F5.g.tr G6).tr f7.g, t7⟩
end CTS

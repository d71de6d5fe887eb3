-- 89q.rtell2: pure: streets and the young, as the reference reads them
section RTS
variable {K V P : Nat → Nat} {N : Nat → Int64} {E v n g i : Nat} {M M' : Mem} {nm : List (Int64 × Nat)} {lf : Nat × Nat} {τ : Nat → Nat → Nat} {B : Nat → List (Cd × Cd × Cd)} {W : Nat → Cd}
def rS5 (M : Mem) : Option Mem := (f_X12_must (4 : Int32) M).bind fun M23 => rUp 78 M23
def rS4 (v2 : Int32) (M : Mem) : Option Mem := (f_X12_bounded (1 : Int32) (99 : Int32) M).bind fun t20 => (pg t20.2 81 20 v2 t20.1).bind fun M21 => rS5 M21
def rS3 (v2 v6 : Int32) (M9 : Mem) : Option Mem := (if M9.1 67 13 = 0 then (ag M9 79 20 v2).bind fun v12 => if v12 < 0 then some M9 else (ag M9 79 20 v2).bind fun v14 => (ag M9 80 20 v2).bind fun v15 => if v14 = v15 then (f_X12_wrong (3 : Int32) v6 M9).bind fun M18 => some M18 else some M9 else some M9).bind fun t10 => rS4 v2 t10
def rS2 (v2 : Int32) (M5 : Mem) : Option Mem := lt (M5.1 67 11 : Int32) fun v6 => (f_X12_known M5).bind fun t8 => (pg t8.2 80 20 v2 t8.1).bind fun M9 => rS3 v2 v6 M9
theorem S5D {e p : Nat} (D : DM e p v M) : rS5 M = some M := by
  unfold rS5
  rw [r_mustD D.1, sb, rUp_D D]
theorem nsd2 {a s : Nat} (hv : v ≤ 1) (ha : 79 ≤ a) (hb : a ≤ 81) (hs : s < 10) : ¬ sdR (1 - v) a (10 * v + s) := by
  unfold sdR lwR
  omega
theorem nsd3 {a s : Nat} (hv : v ≤ 1) (ha : 83 ≤ a) (hb : a ≤ 85) (hs : s < 6) : ¬ sdR (1 - v) a (6 * v + s) := by
  unfold sdR lwR
  omega
theorem S4D {e p s : Nat} (hv : v ≤ 1) (hs : s < 10) (D : DM e p v M) : ∃ M', rS4 (nI (10 * v + s)) M = some M' ∧ FH v M M' ∧ DM e p v M' := by
  have D1 := D.wr (a := 81) (j := 10 * v + s) (x := 1) (by decide)
  exact ⟨_, by unfold rS4; rw [r_boD D, sb, pg_n (by omega) (by omega), sb, S5D D1], FH.wr (by omega) (by omega) (nsd2 hv (by omega) (by omega) hs), D1⟩
theorem S3D {e p s : Nat} {x : Int32} (hv : v ≤ 1) (hs : s < 10) (D : DM e p v M) : ∃ M', rS3 (nI (10 * v + s)) x M = some M' ∧ FH v M M' ∧ DM e p v M' := by
  unfold rS3
  rw [if_neg D.1.n0, sb]
  exact S4D hv hs D
theorem S2D {e p s : Nat} (hv : v ≤ 1) (hs : s < 10) (D : DM e p v M) : ∃ M', rS2 (nI (10 * v + s)) M = some M' ∧ FH v M M' ∧ DM e p v M' := by
  have D1 := D.wr (a := 80) (j := 10 * v + s) (x := -1) (by decide)
  obtain ⟨M2, e2, f2, D2⟩ := S3D (x := M.1 67 11) hv hs D1
  exact ⟨M2, by unfold rS2; rw [lt_def, r_knD D, sb, pg_n (by omega) (by omega), sb, e2], (FH.wr (by omega) (by omega) (nsd2 hv (by omega) (by omega) hs)).tr f2, D2⟩
/-- the two corners of a street: are they one? -/
theorem r_same {s j i2 : Nat} {lf2 : Nat × Nat} (w : wfK K P V E) (T : tokM K P V N E M) (A : AM P E v j g n nm lf2 M) (hv : v ≤ 1) (hs : s < 10) (x y : Option Nat) (hx : ∀ c, x = some c → c < 10) (hy : ∀ c, y = some c → c < 10) (h79 : M.1 79 (10 * v + s) = cvO x) (h80 : M.1 80 (10 * v + s) = cvO y) (hi2 : i2 ≤ E) (hij : P i2 < P j) (hl : x.isSome = true → x = y → lf2.1 ≠ 0 → lf2.2 < P i2) : ∃ M', (if M.1 67 13 = 0 then (ag M 79 20 (nI (10 * v + s))).bind fun v12 => if v12 < 0 then some M else (ag M 79 20 (nI (10 * v + s))).bind fun v14 => (ag M 80 20 (nI (10 * v + s))).bind fun v15 => if v14 = v15 then (f_X12_wrong (3 : Int32) (nI i2) M).bind fun M18 => some M18 else some M else some M) = some M' ∧ FK M M' ∧ AM P E v j g n nm (lfU lf2 (x.isSome && (x == y)) 3 (P i2)) M' := by
  rw [if_pos A.1.1, ag_n (by omega) (by omega), sb, sb, ag_n (by omega) (by omega), sb, h79, h80]
  cases x with
  | none =>
    rw [if_pos (show cvO none < 0 by decide), show ((none : Option Nat).isSome && (none == y)) = false from rfl, lfU_f]
    exact ⟨M, rfl, FK.rf, A⟩
  | some a =>
    have la := hx a rfl
    rw [if_neg (show ¬ cvO (some a) < 0 from nI_pos (by omega))]
    cases y with
    | none =>
      rw [if_neg (show ¬ cvO (some a) = cvO none from m1_ne (by omega)), show ((some a : Option Nat).isSome && (some a == none)) = false from rfl, lfU_f]
      exact ⟨M, rfl, FK.rf, A⟩
    | some b =>
      have lb := hy b rfl
      by_cases e : a = b
      · subst e
        obtain ⟨M1, e1, f1, A1⟩ := r_wrA (f := 3) (i := i2) w T A hi2 (fun z => Or.inl (hl rfl rfl z)) hij (by omega) (by omega)
        rw [if_pos rfl, show f_X12_wrong 3 (nI i2) M = some M1 from e1, sb, show ((some a : Option Nat).isSome && (some a == some a)) = true by simp]
        exact ⟨M1, rfl, f1, A1⟩
      · rw [if_neg (show ¬ cvO (some a) = cvO (some b) from fun z => e (nI_inj (by omega) (by omega) z)), show ((some a : Option Nat).isSome && (some a == some b)) = false by simp [e], lfU_f]
        exact ⟨M, rfl, FK.rf, A⟩
/-- STREET -/
theorem r_street (hv : v ≤ 1) (w : wfK K P V E) (mP : ∀ a, a < E → P a < P (a + 1)) (T : tokM K P V N E M) (I : RI P E v (i, τ, nm, B, W, lf) M) (b : bdS τ nm) (hk : K i = 21) : ∃ M', f_X12_tellOne M = some M' ∧ FH v M M' ∧ TP P E v i M' (tlR' K V P N (i, τ, nm, B, W, lf)) := by
  have hE := w.1
  obtain ⟨g, n, A, C, Pc, Lw⟩ := I
  obtain ⟨b1, b2, b3, b4, b5⟩ := b
  have A : AM P E v i g n nm lf M := A
  have C : CNm v τ M := C
  have Pc : lf.1 = 0 → PCm v τ M := Pc
  have Lw : LWm v g n B W M := Lw
  have hiE := A.2.2.2.2.2.1
  have hs : tlR' K V P N (i, τ, nm, B, W, lf) = (if 10 ≤ tS τ then .error (2, i) else exK K 21 i : Except (Nat × Nat) Nat).bind fun i1 => (exK K 1 i1).bind fun i2 => (exK K 1 i2).bind fun i3 => (exK K 2 i3).bind fun i4 => (exK K 4 i4).bind fun i5 => .ok (i5, upT (upT (upT (upT τ 1 (tS τ) ((lkM nm (N i1)).getD 0)) 2 (tS τ) ((lkM nm (N i2)).getD 0)) 3 (tS τ) (V i3)) 0 1 (tS τ + 1), nm, B, W, inS V P 1 99 i3 (lfU (cnS P N nm i2 (cnS P N nm i1 lf)) ((lkM nm (N i1)).isSome && (lkM nm (N i1) == lkM nm (N i2))) 3 (P i2))) := by
    unfold tlR'
    dsimp only
    by_cases h : 10 ≤ tS τ
    · rw [if_pos h, if_pos h]; rfl
    · rw [if_neg h, if_neg h]
  obtain ⟨M1, e1, f1, a1, a2⟩ := r_room (c := tS τ) (m := 10) w mP T A hk (by omega) (by omega) (by omega) (by omega)
  have e1' : f_X12_roomFor (nI (tS τ)) 10 M = some M1 := e1
  have hr : f_X12_tellOne M = if M1.1 67 13 = 0 then f_X12_tellStreet M1 else some M1 := by
    unfold f_X12_tellOne
    rw [A.1.2.1, ag_n (by omega) (by omega), sb, (T i hiE).1, hk, if_neg (show ¬ nI 21 = 20 by decide), if_pos (show nI 21 = 21 from rfl), A.2.1, ag_n (by omega) (by omega), sb, C.2.1, e1', sb, bs]
  rw [hr]
  cases h1 : (if 10 ≤ tS τ then .error (2, i) else exK K 21 i : Except (Nat × Nat) Nat) with
  | error x =>
    have D1 := a2 x h1
    rw [if_neg D1.1.n0]
    exact ⟨M1, rfl, f1.h, TP.er (by rw [hs, h1, eb_er]) D1⟩
  | ok i1 =>
    have A1 := a1 i1 h1
    have h7 : tS τ < 10 := by
      rcases Nat.lt_or_ge (tS τ) 10 with q | q
      · exact q
      · rw [if_pos q] at h1; cases h1
    have hn7 : ¬ 10 ≤ tS τ := by omega
    rw [if_neg hn7] at h1
    have j1 := (exK_ok h1).2.2
    have hi1 := A1.2.2.2.2.2.1
    have ns : ∀ a, 79 ≤ a → a ≤ 81 → ¬ sdR (1 - v) a (10 * v + tS τ) := fun a p q => nsd2 hv p q h7
    obtain ⟨y1, M2, e2, f2, p1, p2⟩ := r_knA w mP (T.fk f1) A1
    have F2 := f1.tr f2
    have hc1 := (C.q f1.q).2.1
    rw [if_pos A1.1.1]
    have r1 : f_X12_tellStreet M1 = rS2 (nI (10 * v + tS τ)) (sI M2 79 (10 * v + tS τ) y1) := by
      unfold f_X12_tellStreet
      rw [A1.2.1, ag_n (by omega) (by omega), sb, hc1, show (10 : Int32) = nI 10 from rfl, ix_m, lt_def, e2, sb, pg_n (by omega) (by omega), sb]
      rfl
    rw [r1]
    have G2 : FH v M (sI M2 79 (10 * v + tS τ) y1) := F2.h.tr (FH.wr (by omega) (by omega) (ns 79 (by omega) (by omega)))
    cases h2 : exK K 1 i1 with
    | error x =>
      obtain ⟨M3, e3, f3, D3⟩ := S2D hv h7 ((p2 x h2).wr (a := 79) (j := 10 * v + tS τ) (x := y1) (by decide))
      exact ⟨M3, e3, G2.tr f3, TP.er (by rw [hs, if_neg hn7, h1, eb_ok, h2, eb_er]) D3⟩
    | ok i2 =>
      obtain ⟨A2, hy1⟩ := p1 i2 h2
      have j2 := (exK_ok h2).2.2
      have A2' := A2.wr (a := 79) (j := 10 * v + tS τ) (x := y1) (by decide) (by decide)
      have hi2 := A2.2.2.2.2.2.1
      obtain ⟨y2, M3, e3, f3, u1, u2⟩ := r_knA w mP (T.fh G2) A2'
      have G3 : FH v M (sI M3 80 (10 * v + tS τ) y2) := (G2.tr f3.h).tr (FH.wr (by omega) (by omega) (ns 80 (by omega) (by omega)))
      have r2 : rS2 (nI (10 * v + tS τ)) (sI M2 79 (10 * v + tS τ) y1) = rS3 (nI (10 * v + tS τ)) (nI i2) (sI M3 80 (10 * v + tS τ) y2) := by
        unfold rS2
        rw [A2'.1.2.1, lt_def, e3, sb, pg_n (by omega) (by omega), sb]
      rw [r2]
      cases h3 : exK K 1 i2 with
      | error x =>
        obtain ⟨M4, e4, f4, D4⟩ := S3D (x := nI i2) hv h7 ((u2 x h3).wr (a := 80) (j := 10 * v + tS τ) (x := y2) (by decide))
        exact ⟨M4, e4, G3.tr f4, TP.er (by rw [hs, if_neg hn7, h1, eb_ok, h2, eb_ok, h3, eb_er]) D4⟩
      | ok i3 =>
        obtain ⟨A3, hy2⟩ := u1 i3 h3
        have j3 := (exK_ok h3).2.2
        have hi3 := A3.2.2.2.2.2.1
        have A3' := A3.wr (a := 80) (j := 10 * v + tS τ) (x := y2) (by decide) (by decide)
        have k79 : (sI M3 80 (10 * v + tS τ) y2).1 79 (10 * v + tS τ) = cvO (lkM nm (N i1)) := (congrFun (sI_cell (by decide)) _).trans ((congrFun (f3.q 79 (by decide) (by decide)) _).trans (sI_same.trans hy1))
        obtain ⟨M4, e4, f4, A4⟩ := r_same (s := tS τ) (i2 := i2) w (T.fh G3) A3' hv h7 (lkM nm (N i1)) (lkM nm (N i2)) (fun c h => (lkM_in h).1) (fun c h => (lkM_in h).1) k79 (sI_same.trans hy2) hi2 (by rw [j3]; exact mP i2 (by omega)) (fun z1 z2 z3 => by
          have e : cnS P N nm i2 (cnS P N nm i1 lf) = cnS P N nm i1 lf := by
            show lfU _ (lkM nm (N i2)).isNone _ _ = _
            rw [← z2]
            cases hl : lkM nm (N i1) with
            | none => rw [hl] at z1; cases z1
            | some c => exact lfU_f
          rw [e] at z3 ⊢
          exact A2.2.2.2.2.1 z3)
        have G4 := G3.tr (f4.h (v := v))
        obtain ⟨y3, M5, e5, f5, o1, o2⟩ := r_boA (a := 1) (b := 99) w mP (T.fh G4) A4 (by omega) (by omega)
        have e5' : f_X12_bounded 1 99 M4 = some (y3, M5) := e5
        have G5 : FH v M (sI M5 81 (10 * v + tS τ) y3) := (G4.tr f5.h).tr (FH.wr (by omega) (by omega) (ns 81 (by omega) (by omega)))
        have r3 : rS3 (nI (10 * v + tS τ)) (nI i2) (sI M3 80 (10 * v + tS τ) y2) = rS5 (sI M5 81 (10 * v + tS τ) y3) := by
          unfold rS3 rS4
          rw [e4, sb, e5', sb, pg_n (by omega) (by omega), sb]
        rw [r3]
        cases h4 : exK K 2 i3 with
        | error x =>
          have D5 := (o2 x h4).wr (a := 81) (j := 10 * v + tS τ) (x := y3) (by decide)
          exact ⟨_, S5D D5, G5, TP.er (by rw [hs, if_neg hn7, h1, eb_ok, h2, eb_ok, h3, eb_ok, h4, eb_er]) D5⟩
        | ok i4 =>
          obtain ⟨A5, hy3⟩ := o1 i4 h4
          have j4 := (exK_ok h4).2.2
          have A5' := A5.wr (a := 81) (j := 10 * v + tS τ) (x := y3) (by decide) (by decide)
          obtain ⟨M6, e6, f6, s1, s2⟩ := r_muA (k := 4) w mP (T.fh G5) A5' (by omega) (by omega) (by omega)
          have e6' : f_X12_must 4 (sI M5 81 (10 * v + tS τ) y3) = some M6 := e6
          have G6 := G5.tr (f6.fk.h (v := v))
          have r4 : rS5 (sI M5 81 (10 * v + tS τ) y3) = rUp 78 M6 := by unfold rS5; rw [e6', sb]
          rw [r4]
          cases h5 : exK K 4 i4 with
          | error x =>
            have D6 := s2 x h5
            exact ⟨M6, rUp_D D6, G6, TP.er (by rw [hs, if_neg hn7, h1, eb_ok, h2, eb_ok, h3, eb_ok, h4, eb_ok, h5, eb_er]) D6⟩
          | ok i5 =>
            obtain ⟨A6, j5, -⟩ := s1 i5 h5
            have k6 : ∀ a, 77 ≤ a → a ≤ 99 → a ≠ 79 → a ≠ 80 → a ≠ 81 → M6.1 a = M.1 a := fun a p q x1 x2 x3 => (f6.fk.q a p q).trans ((sI_cell x3).trans ((f5.q a p q).trans ((f4.q a p q).trans ((sI_cell x2).trans ((f3.q a p q).trans ((sI_cell x1).trans (F2.q a p q)))))))
            have c78 : M6.1 78 v = nI (tS τ) := by rw [k6 78 (by decide) (by decide) (by decide) (by decide) (by decide)]; exact C.2.1
            have k7 : ∀ a, 77 ≤ a → a ≤ 99 → a ≠ 79 → a ≠ 80 → a ≠ 81 → a ≠ 78 → (sI M6 78 v (nI (tS τ + 1))).1 a = M.1 a := fun a p q x1 x2 x3 x4 => (sI_cell x4).trans (k6 a p q x1 x2 x3)
            have c1 : ∀ q, (sI M6 78 v (nI (tS τ + 1))).1 79 q = (sI M2 79 (10 * v + tS τ) y1).1 79 q := fun q => (congrFun (sI_cell (by decide)) q).trans ((congrFun (f6.fk.q 79 (by decide) (by decide)) q).trans ((congrFun (sI_cell (by decide)) q).trans ((congrFun (f5.q 79 (by decide) (by decide)) q).trans ((congrFun (f4.q 79 (by decide) (by decide)) q).trans ((congrFun (sI_cell (by decide)) q).trans (congrFun (f3.q 79 (by decide) (by decide)) q))))))
            have c2 : ∀ q, (sI M6 78 v (nI (tS τ + 1))).1 80 q = (sI M3 80 (10 * v + tS τ) y2).1 80 q := fun q => (congrFun (sI_cell (by decide)) q).trans ((congrFun (f6.fk.q 80 (by decide) (by decide)) q).trans ((congrFun (sI_cell (by decide)) q).trans ((congrFun (f5.q 80 (by decide) (by decide)) q).trans (congrFun (f4.q 80 (by decide) (by decide)) q))))
            have c3 : ∀ q, (sI M6 78 v (nI (tS τ + 1))).1 81 q = (sI M5 81 (10 * v + tS τ) y3).1 81 q := fun q => (congrFun (sI_cell (by decide)) q).trans (congrFun (f6.fk.q 81 (by decide) (by decide)) q)
            have d1 : ∀ q, q ≠ 10 * v + tS τ → (sI M6 78 v (nI (tS τ + 1))).1 79 q = M.1 79 q := fun q hq => (c1 q).trans ((sI_ix hq).trans (congrFun (F2.q 79 (by decide) (by decide)) q))
            have d2 : ∀ q, q ≠ 10 * v + tS τ → (sI M6 78 v (nI (tS τ + 1))).1 80 q = M.1 80 q := fun q hq => (c2 q).trans ((sI_ix hq).trans ((congrFun (f3.q 80 (by decide) (by decide)) q).trans ((congrFun (sI_cell (by decide)) q).trans (congrFun (F2.q 80 (by decide) (by decide)) q))))
            have d3 : ∀ q, q ≠ 10 * v + tS τ → (sI M6 78 v (nI (tS τ + 1))).1 81 q = M.1 81 q := fun q hq => (c3 q).trans ((sI_ix hq).trans ((congrFun (f5.q 81 (by decide) (by decide)) q).trans ((congrFun (f4.q 81 (by decide) (by decide)) q).trans ((congrFun (sI_cell (by decide)) q).trans ((congrFun (f3.q 81 (by decide) (by decide)) q).trans ((congrFun (sI_cell (by decide)) q).trans (congrFun (F2.q 81 (by decide) (by decide)) q)))))))
            have e' : ∀ f k, f ≠ 0 → f ≠ 1 → f ≠ 2 → f ≠ 3 → upT (upT (upT (upT τ 1 (tS τ) ((lkM nm (N i1)).getD 0)) 2 (tS τ) ((lkM nm (N i2)).getD 0)) 3 (tS τ) (V i3)) 0 1 (tS τ + 1) f k = τ f k := fun f k h0 h1 h2 h3 => (upT_f h0).trans ((upT_f h3).trans ((upT_f h2).trans (upT_f h1)))
            have e0 : ∀ k, k ≠ 1 → upT (upT (upT (upT τ 1 (tS τ) ((lkM nm (N i1)).getD 0)) 2 (tS τ) ((lkM nm (N i2)).getD 0)) 3 (tS τ) (V i3)) 0 1 (tS τ + 1) 0 k = τ 0 k := fun k hk => (upT_k hk).trans ((upT_f (by decide)).trans ((upT_f (by decide)).trans (upT_f (by decide))))
            refine ⟨_, rUp_A hv A6.1.1 A6.2.1 c78, G6.tr (FH.wr (by omega) (by omega) (nsd hv (by omega))), TP.mk (τ := upT (upT (upT (upT τ 1 (tS τ) ((lkM nm (N i1)).getD 0)) 2 (tS τ) ((lkM nm (N i2)).getD 0)) 3 (tS τ) (V i3)) 0 1 (tS τ + 1)) (by rw [hs, if_neg hn7, h1, eb_ok, h2, eb_ok, h3, eb_ok, h4, eb_ok, h5, eb_ok]) (A6.wr (by decide) (by decide)) ⟨?_, sI_same, ?_, ?_⟩ (fun z => ?_) (Lw.lw (fun a p q => k7 a (by omega) q (by omega) (by omega) (by omega) (by omega))) (by omega)⟩
            · rw [k7 77 (by decide) (by decide) (by decide) (by decide) (by decide) (by decide)]
              exact C.1.trans (congrArg nI (e0 0 (by decide)).symm)
            · rw [k7 82 (by decide) (by decide) (by decide) (by decide) (by decide) (by decide)]
              exact C.2.2.1.trans (congrArg nI (e0 2 (by decide)).symm)
            · rw [k7 86 (by decide) (by decide) (by decide) (by decide) (by decide) (by decide)]
              exact C.2.2.2.trans (congrArg nI (e0 3 (by decide)).symm)
            · obtain ⟨z1, z2, z3⟩ := inS_0 z
              obtain ⟨z4, z5⟩ := lfU_0 z1 (by omega)
              obtain ⟨z6, z7⟩ := cnS_0 z4
              obtain ⟨z8, z9⟩ := cnS_0 z6
              obtain ⟨q1, q2, q3, q4, q5, q6⟩ := Pc z8
              refine ⟨?_, ?_, ?_, fun s hs' => ?_, fun y' hy' => ?_, fun u hu => ?_⟩
              · rw [k7 88 (by decide) (by decide) (by decide) (by decide) (by decide) (by decide)]
                exact q1.trans (congrArg nI (e0 6 (by decide)).symm)
              · rw [k7 89 (by decide) (by decide) (by decide) (by decide) (by decide) (by decide)]
                exact q2.trans (congrArg nI (e0 4 (by decide)).symm)
              · rw [k7 90 (by decide) (by decide) (by decide) (by decide) (by decide) (by decide)]
                exact q3.trans (congrArg nI (e0 5 (by decide)).symm)
              · have hs' : s < tS τ + 1 := hs'
                by_cases e : s = tS τ
                · subst e
                  refine ⟨(c1 _).trans (sI_same.trans ?_), (c2 _).trans (sI_same.trans ?_), (c3 _).trans (sI_same.trans ?_)⟩
                  · rw [hy1]
                    cases hl : lkM nm (N i1) with
                    | none => rw [hl] at z9; cases z9
                    | some c => simp [upT, cvO]
                  · rw [hy2]
                    cases hl : lkM nm (N i2) with
                    | none => rw [hl] at z7; cases z7
                    | some c => simp [upT, cvO]
                  · rw [hy3]
                    simp [upT]
                · have u := q4 s (by omega)
                  have e'' : ∀ f, 1 ≤ f → upT (upT (upT (upT τ 1 (tS τ) ((lkM nm (N i1)).getD 0)) 2 (tS τ) ((lkM nm (N i2)).getD 0)) 3 (tS τ) (V i3)) 0 1 (tS τ + 1) f s = τ f s := fun f hf => (upT_f (by omega)).trans ((upT_k e).trans ((upT_k e).trans (upT_k e)))
                  rw [e'' 1 (by omega), e'' 2 (by omega), e'' 3 (by omega), d1 _ (by omega), d2 _ (by omega), d3 _ (by omega)]
                  exact u
              · have hy' : y' < tY τ := Nat.lt_of_lt_of_eq hy' (e0 2 (by decide))
                rw [k7 83 (by decide) (by decide) (by decide) (by decide) (by decide) (by decide), k7 84 (by decide) (by decide) (by decide) (by decide) (by decide) (by decide), k7 85 (by decide) (by decide) (by decide) (by decide) (by decide) (by decide), e' 4 y' (by decide) (by decide) (by decide) (by decide), e' 5 y' (by decide) (by decide) (by decide) (by decide), e' 6 y' (by decide) (by decide) (by decide) (by decide)]
                exact q5 y' hy'
              · have hu : u < tW τ := Nat.lt_of_lt_of_eq hu (e0 3 (by decide))
                rw [k7 87 (by decide) (by decide) (by decide) (by decide) (by decide) (by decide), e' 7 u (by decide) (by decide) (by decide) (by decide)]
                exact q6 u hu
end RTS

-- 79.rex2: pure: the reference reads an expression
section REY
variable {H : Nat} {K V P : Nat → Nat} {N : Nat → Int64} {E : Nat} {M M' : Mem}
def tlR (fu : Nat) (t32 : Mem) : Option Mem :=
          (f_X12_is (8 : Int32) t32).bind fun v35 =>
          (
            if v35 = 0 then
              (f_X12_is (9 : Int32) t32).bind fun v39 =>
              if v39 = 0 then
                (f_X12_is (10 : Int32) t32).bind fun v42 =>
                if v42 = 0 then
                  (f_X12_is (15 : Int32) t32).bind fun v45 =>
                  if v45 = 0 then
                    some (0 : Int32)
                  else
                    some (1 : Int32)
                else
                  some (1 : Int32)
              else
                some (1 : Int32)
            else
              some (1 : Int32)
          ).bind fun t36 =>
          if t36 = 0 then
            (
              if t32.1 67 12 ≤ 0 then
                some t32
              else
                (f_X12_fail (1 : Int32) t32).bind fun M51 =>
                some M51
            ).bind fun t48 =>
            (f_X12_comesOut (0 : Int32) t48).bind fun M53 =>
            some M53
          else
            (f_X12_is (10 : Int32) t32).bind fun v55 =>
            (
              if v55 = 0 then
                (f_X12_is (15 : Int32) t32).bind fun v59 =>
                if v59 = 0 then
                  some (0 : Int32)
                else
                  some (1 : Int32)
              else
                some (1 : Int32)
            ).bind fun t56 =>
            (f_X12_comesOut t56 t32).bind fun M62 =>
            (ag M62 70 403 (M62.1 67 11)).bind fun v63 =>
            (pg M62 100 64 (M62.1 67 49) v63).bind fun M64 =>
            lt (sI M64 67 49 ((M64.1 67 49) + (1 : Int32))) fun M65 =>
            (f_X12_goesOn M65).bind fun M67 =>
            f_X12_expression_L12 (fun t => some t) fu 0 t36 M67
def RB (fu h : Nat) (M : Mem) : Option Mem := (f_X12_expression_L96 h 0 M).bind fun t32 => tlR fu t32
def RP (fu g : Nat) (M : Mem) : Option Mem := (f_X12_expression_L23 g 0 M).bind fun t17 => (f_X12_unit t17).bind fun M20 => if M20.1 67 13 ≤ 0 then RB fu FU M20 else some M20
theorem RA_e {fu : Nat} (h0 : M.1 67 13 = 0) : f_X12_expression_L12 (fun t => some t) (fu + 1) 0 1 M = RP fu FU M := by
  rw [f_X12_expression_L12, if_neg (by decide), if_pos h0]
  rfl
theorem RA_d {fu e p : Nat} (h : QD e p M) : f_X12_expression_L12 (fun t => some t) (fu + 1) 0 1 M = some M := by
  rw [f_X12_expression_L12, if_neg (by decide), if_neg h.n0]
theorem RP_d {fu g e p : Nat} (h : QD e p M) : RP fu (g + 1) M = some M := by
  unfold RP
  rw [f_X12_expression_L23, r_isD h, sb, if_pos rfl, sb]
  unfold f_X12_unit
  rw [r_isD h, sb, if_pos rfl, if_neg h.n0, r_failD h, sb, sb, if_neg h.nl]
theorem tl_op {fu j : Nat} (w : wfK K P V E) (T : tokM K P V N E M) (hj : j ≤ E) (h0 : M.1 67 13 = 0) (h1 : M.1 67 11 = nI j) (ho : lvK (K j) < 2) : tlR fu M = (f_X12_comesOut (nI (lvK (K j))) M).bind fun M62 => (ag M62 70 403 (M62.1 67 11)).bind fun v63 => (pg M62 100 64 (M62.1 67 49) v63).bind fun M64 => lt (sI M64 67 49 ((M64.1 67 49) + (1 : Int32))) fun M65 => (f_X12_goesOn M65).bind fun M67 => f_X12_expression_L12 (fun t => some t) fu 0 1 M67 := by
  have i8 : f_X12_is 8 M = some (if K j = 8 then 1 else 0) := r_is0 (k := 8) w T hj h0 h1 (by omega)
  have i9 : f_X12_is 9 M = some (if K j = 9 then 1 else 0) := r_is0 (k := 9) w T hj h0 h1 (by omega)
  have i10 : f_X12_is 10 M = some (if K j = 10 then 1 else 0) := r_is0 (k := 10) w T hj h0 h1 (by omega)
  have i15 : f_X12_is 15 M = some (if K j = 15 then 1 else 0) := r_is0 (k := 15) w T hj h0 h1 (by omega)
  unfold tlR
  rcases lvK_o ho with h | h | h | h <;> rw [h] at i8 i9 i10 i15 ⊢
  · rw [show f_X12_is 8 M = some 1 from i8, sb, if_neg (by decide), sb, if_neg (by decide), show f_X12_is 10 M = some 0 from i10, sb, if_pos rfl, show f_X12_is 15 M = some 0 from i15, sb, if_pos rfl, sb]
    rfl
  · rw [show f_X12_is 8 M = some 0 from i8, sb, if_pos rfl, show f_X12_is 9 M = some 1 from i9, sb, if_neg (by decide), sb, if_neg (by decide), show f_X12_is 10 M = some 0 from i10, sb, if_pos rfl, show f_X12_is 15 M = some 0 from i15, sb, if_pos rfl, sb]
    rfl
  · rw [show f_X12_is 8 M = some 0 from i8, sb, if_pos rfl, show f_X12_is 9 M = some 0 from i9, sb, if_pos rfl, show f_X12_is 10 M = some 1 from i10, sb, if_neg (by decide), sb, if_neg (by decide), sb, if_neg (by decide), sb]
    rfl
  · rw [show f_X12_is 8 M = some 0 from i8, sb, if_pos rfl, show f_X12_is 9 M = some 0 from i9, sb, if_pos rfl, show f_X12_is 10 M = some 0 from i10, sb, if_pos rfl, show f_X12_is 15 M = some 1 from i15, sb, if_neg (by decide), sb, if_neg (by decide), sb, if_pos rfl, sb]
    rfl
theorem tl_no {fu j : Nat} (w : wfK K P V E) (T : tokM K P V N E M) (hj : j ≤ E) (h0 : M.1 67 13 = 0) (h1 : M.1 67 11 = nI j) (ho : ¬ lvK (K j) < 2) : tlR fu M = (if M.1 67 12 ≤ 0 then some M else (f_X12_fail (1 : Int32) M).bind fun M51 => some M51).bind fun t48 => (f_X12_comesOut (0 : Int32) t48).bind fun M53 => some M53 := by
  have n8 : K j ≠ 8 := fun z => ho (by rw [z]; decide)
  have n9 : K j ≠ 9 := fun z => ho (by rw [z]; decide)
  have n10 : K j ≠ 10 := fun z => ho (by rw [z]; decide)
  have n15 : K j ≠ 15 := fun z => ho (by rw [z]; decide)
  have i8 : f_X12_is 8 M = some (if K j = 8 then 1 else 0) := r_is0 (k := 8) w T hj h0 h1 (by omega)
  have i9 : f_X12_is 9 M = some (if K j = 9 then 1 else 0) := r_is0 (k := 9) w T hj h0 h1 (by omega)
  have i10 : f_X12_is 10 M = some (if K j = 10 then 1 else 0) := r_is0 (k := 10) w T hj h0 h1 (by omega)
  have i15 : f_X12_is 15 M = some (if K j = 15 then 1 else 0) := r_is0 (k := 15) w T hj h0 h1 (by omega)
  rw [if_neg n8] at i8
  rw [if_neg n9] at i9
  rw [if_neg n10] at i10
  rw [if_neg n15] at i15
  unfold tlR
  rw [i8, sb, if_pos rfl, i9, sb, if_pos rfl, i10, sb, if_pos rfl, i15, sb, if_pos rfl, sb, if_pos rfl]
theorem tl_dead {fu e p n : Nat} {W : List Nat} (hH : H ≤ 840) (h : QD e p M) (h49 : M.1 67 49 = nI W.length) (hw : W.length < 2 ^ 6) (h45 : M.1 67 45 = nI n) (hn : n + W.length ≤ H) : ∃ M', tlR fu M = some M' ∧ QF H n M M' ∧ QD e p M' := by
  obtain ⟨M1, e1, f1, p1, p2, p3⟩ := r_outZ hH W FU n M (Nat.lt_trans hw (by decide)) h49 hw h45 hn
  refine ⟨M1, ?_, f1, ⟨p1.trans h.1.1, h.1.2⟩, p2.trans h.2.1, ?_⟩
  · unfold tlR
    rw [r_isD h, sb, if_pos rfl, r_isD h, sb, if_pos rfl, r_isD h, sb, if_pos rfl, r_isD h, sb, if_pos rfl, sb, if_pos rfl, r_failD h, sb, ite_self, sb]
    unfold f_X12_comesOut
    rw [e1, sb]
  · obtain ⟨a, ha, h1⟩ := h.2.2
    exact ⟨a, ha, p3.trans h1⟩
/-- what comes out of a run that stands before an expression of level lv -/
def RO (H : Nat) (K P : Nat → Nat) (E d i n lv : Nat) (W : List Nat) (M : Mem) (run : Option Mem) : Except (Nat × Nat) (List (Nat × Nat) × Nat) → Prop
  | .error x => ∃ M', run = some M' ∧ QF H n M M' ∧ QD x.1 (P x.2) M'
  | .ok r => ∃ M' fu h p c, run = RB fu h M' ∧ QF H n M M' ∧ QS r.2 d (n + c.length) (p ++ W) M' ∧ CM M' n c ∧ c ++ flR p = r.1 ∧ (∀ k ∈ p, lv ≤ lvK k ∧ lvK k < 2) ∧ p.length ≤ 2 - lv ∧ 401 - r.2 ≤ fu ∧ FU - (6 - d) ≤ h ∧ i < r.2 ∧ r.2 ≤ E ∧ i + r.1.length ≤ r.2 ∧ ∀ l, lv ≤ l → l < 2 → lvK (K r.2) ≠ l
theorem flR_l {p : List Nat} : (flR p).length = p.length := by unfold flR; simp
theorem RB_s {fu h j : Nat} (w : wfK K P V E) (T : tokM K P V N E M) (hj : j ≤ E) (h0 : M.1 67 13 = 0) (h1 : M.1 67 11 = nI j) (h7 : K j ≠ 7) (hh : 0 < h) : RB fu h M = tlR fu M := by
  obtain ⟨q, rfl⟩ : ∃ q, h = q + 1 := ⟨h - 1, by omega⟩
  have i7 : f_X12_is 7 M = some (if K j = 7 then 1 else 0) := r_is0 (k := 7) w T hj h0 h1 (by omega)
  rw [if_neg h7] at i7
  unfold RB
  rw [f_X12_expression_L96, i7, sb, if_pos rfl, sb]
theorem r_loop {lv d i0 n f : Nat} {W : List Nat} (hH : H ≤ 840) (w : wfK K P V E) (hlv : lv < 2) (hd : d ≤ 6) (hW : tpW lv W) (hWl : W.length ≤ 3 * d + lv) (hn0 : n + 420 ≤ H + i0) (IH : ∀ i n W M fu g, i ≤ E → tokM K P V N E M → QS i d n W M → n + 420 ≤ H + i → W.length ≤ 3 * d + (lv + 1) → (lv + 1 < 2 → tpW (lv + 1) W) → 401 - i ≤ fu → 8 - d ≤ g → RO H K P E d i n (lv + 1) W M (RP fu g M) (rdG K V f (lv + 1) d i)) : ∀ (m j fu h : Nat) (c : List (Nat × Nat)) (p : List Nat) (M : Mem), (∀ k ∈ p, lv ≤ lvK k ∧ lvK k < 2) → p.length ≤ 2 - lv → QS j d (n + c.length) (p ++ W) M → CM M n c → tokM K P V N E M → 401 - j ≤ fu → FU - (6 - d) ≤ h → i0 < j → j ≤ E → i0 + (c ++ flR p).length ≤ j → (∀ l, lv + 1 ≤ l → l < 2 → lvK (K j) ≠ l) → 401 ≤ m + j → RO H K P E d i0 n lv W M (RB fu h M) (rdL K (rdG K V f (lv + 1) d) lv m (c ++ flR p) j)
  | 0, j, fu, h, c, p, M, hp, hpl, S, C, T, hfu, hh, hij, hj, hl, hk, hm => absurd hm (by have := w.1; omega)
  | m + 1, j, fu, h, c, p, M, hp, hpl, S, C, T, hfu, hh, hij, hj, hl, hk, hm => by
    have hE := w.1
    have hFU : FU = 1000000 := rfl
    have hcl : (c ++ flR p).length = c.length + p.length := by rw [List.length_append, flR_l]
    have hpw : (p ++ W).length = p.length + W.length := List.length_append
    unfold rdL
    by_cases e : lvK (K j) = lv
    · rw [if_pos e]
      have k7 : K j ≠ 7 := fun z => by rw [z] at e; have : lvK 7 = 2 := by decide
                                       omega
      obtain ⟨M1, e1, f1, S1, C1, -⟩ := r_outA hH (i := j) (d := d) hlv hW p FU (n + c.length) M hp (by omega) (by rw [hpw]; omega) (by omega) S
      have T1 := T.qf f1
      let M2 := sI (sI M1 100 W.length (nI (K j))) 67 49 (nI (W.length + 1))
      have f2 : QF H (n + c.length + p.length) M1 M2 := QF.wt.tr (QF.fd (by decide)) (Nat.le_refl _)
      have c49 : (sI M1 100 W.length (nI (K j))).1 67 49 = nI W.length := (congrFun (sI_cell (by decide)) 49).trans S1.2.2.2.1
      have fld : ∀ q, q ≠ 49 → M2.1 67 q = M1.1 67 q := fun q hq => (sI_ix hq).trans (congrFun (sI_cell (by decide)) q)
      have w100 : M2.1 100 = (sI M1 100 W.length (nI (K j))).1 100 := sI_cell (by decide)
      obtain ⟨M3, e3, f3, a1, a2, b1, b2, b3, b4⟩ := r_go0 (n := n + c.length + p.length) (i := j) w (T1.qf f2) hj ((fld 13 (by decide)).trans S1.1) ((fld 11 (by decide)).trans S1.2.1)
      have F3 : QF H n M M3 := (f1.tr (f2.tr f3 (Nat.le_refl _)) (by omega)) |> fun h => ⟨h.1, h.2.1, fun q hq => h.2.2.1 q (by omega), h.2.2.2⟩
      have run : RB fu h M = f_X12_expression_L12 (fun t => some t) fu 0 1 M3 := by
        rw [RB_s w T hj S.1 S.2.1 k7 (by omega), tl_op w T hj S.1 S.2.1 (by omega), e]
        unfold f_X12_comesOut
        rw [show f_X12_comesOut_L0 (fun t15 => some t15) FU (nI lv) M = some M1 from e1, sb, S1.2.1, ag_n (by omega) (by omega), sb, (T1 j hj).1, S1.2.2.2.1, pg_n (by omega) (by omega), sb, c49, nI_1, lt_def, show f_X12_goesOn (sI (sI M1 100 W.length (nI (K j))) 67 49 (nI (W.length + 1))) = some M3 from e3, sb]
      rw [run]
      obtain ⟨z, rfl⟩ : ∃ z, fu = z + 1 := ⟨fu - 1, by omega⟩
      by_cases h4 : j < 400
      · rw [if_pos h4]
        obtain ⟨g1, g2, g3, g4⟩ := a1 h4
        rw [RA_e g1]
        have S3 : QS (j + 1) d (n + c.length + p.length) (K j :: W) M3 := by
          refine ⟨g1, g2, b4.trans ((fld 12 (by decide)).trans S1.2.2.1), b2.trans sI_same, b3.trans ((fld 45 (by decide)).trans S1.2.2.2.2.1), (congrFun (b1.trans w100) W.length).trans sI_same, ?_⟩
          exact WT.of S1.2.2.2.2.2 (fun q hq => (congrFun (b1.trans w100) q).trans (sI_ix (by omega)))
        have ek := lvK_o (show lvK (K j) < 2 by omega)
        have hj1 := w.nx hj (by omega) (by omega) h4
        have R := IH (j + 1) (n + c.length + p.length) (K j :: W) M3 z FU hj1 ((T1.qf f2).qf f3) S3 (by omega) (by rw [List.length_cons]; omega) (fun hq => Or.inr ⟨by omega, by
          have : lv = 0 := by omega
          rcases ek with q | q | q | q
          · exact Or.inl q
          · exact Or.inr q
          · rw [q] at e; have : lvK 10 = 1 := by decide
            omega
          · rw [q] at e; have : lvK 15 = 1 := by decide
            omega⟩) (by omega) (by omega)
        cases hr : rdG K V f (lv + 1) d (j + 1) with
        | error x =>
          rw [hr] at R
          obtain ⟨M4, r1, r2, r3⟩ := R
          exact ⟨M4, r1, (F3.tr r2 (by omega)), r3⟩
        | ok r =>
          rw [hr] at R
          obtain ⟨M4, fu4, h4', p4, c4, r1, r2, r3, r4, r5, r6, r7, r8, r9, r10, r11, r12, r13⟩ := R
          have r5l : r.1.length = c4.length + p4.length := by rw [← r5, List.length_append, flR_l]
          have F4 : QF H n M M4 := F3.tr r2 (by omega)
          have C4 : CM M4 n ((c ++ flR p) ++ c4) := by
            have g34 : ∀ q, q < n + c.length + p.length → M4.1 98 q = M1.1 98 q ∧ M4.1 99 q = M1.1 99 q := fun q hq => by
              have x1 := r2.2.2.1 q (Or.inl hq)
              have x2 := f3.2.2.1 q (Or.inl hq)
              have x3 := f2.2.2.1 q (Or.inl hq)
              exact ⟨x1.1.trans (x2.1.trans x3.1), x1.2.trans (x2.2.trans x3.2)⟩
            refine CM.app (CM.app (C.of (fun q q1 q2 => ?_)) (C1.of (fun q q1 q2 => ?_))) (by rw [hcl, ← Nat.add_assoc]; exact r4)
            · have x1 := g34 q (by omega)
              have x2 := f1.2.2.1 q (by omega)
              exact ⟨x1.1.trans x2.1, x1.2.trans x2.2⟩
            · rw [flR_l] at q2
              exact g34 q (by omega)
          have sp : (c ++ flR p) ++ (r.1 ++ [(opK (K j), 0)]) = ((c ++ flR p) ++ c4) ++ flR (p4 ++ [K j]) := by
            rw [← r5]
            unfold flR
            simp
          have R2 := r_loop hH w hlv hd hW hWl hn0 IH m r.2 fu4 h4' ((c ++ flR p) ++ c4) (p4 ++ [K j]) M4 (fun k hk => by
            rcases List.mem_append.mp hk with q | q
            · have := r6 k q
              omega
            · rw [List.mem_singleton.mp q]
              omega) (by rw [List.length_append, List.length_singleton]; omega) (by
              rw [List.append_assoc p4, List.singleton_append, List.length_append, hcl, show n + (c.length + p.length + c4.length) = n + c.length + p.length + c4.length by omega]
              exact r3) C4 (((T1.qf f2).qf f3).qf r2) r8 r9 (by omega) r11 (by rw [← sp, List.length_append, hcl, List.length_append, List.length_singleton, r5l]; omega) (fun l a b => r13 l a b) (by omega)
          rw [← sp] at R2
          rw [r1]
          show RO H K P E d i0 n lv W M (RB fu4 h4' M4) (rdL K (rdG K V f (lv + 1) d) lv m ((c ++ flR p) ++ (r.1 ++ [(opK (K j), 0)])) r.2)
          cases hq : rdL K (rdG K V f (lv + 1) d) lv m ((c ++ flR p) ++ (r.1 ++ [(opK (K j), 0)])) r.2 with
          | error x =>
            rw [hq] at R2
            obtain ⟨M5, s1, s2, s3⟩ := R2
            exact ⟨M5, s1, F4.tr s2 (Nat.le_refl _), s3⟩
          | ok y =>
            rw [hq] at R2
            obtain ⟨M5, fu5, h5, p5, c5, s1, s2, s3⟩ := R2
            exact ⟨M5, fu5, h5, p5, c5, s1, F4.tr s2 (Nat.le_refl _), s3⟩
      · rw [if_neg h4, RA_d (a2 h4)]
        exact ⟨M3, rfl, F3, a2 h4⟩
    · rw [if_neg e]
      refine ⟨M, fu, h, p, c, rfl, QF.rf, S, C, rfl, hp, hpl, hfu, hh, hij, hj, hl, fun l a b z => ?_⟩
      rcases Nat.lt_or_ge lv l with q | q
      · exact hk l q b z
      · exact e (z.trans (by omega))
end REY

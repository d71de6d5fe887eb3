-- 80.rex3: pure: the reference reads an expression, the end
section REW
variable {H : Nat} {K V P : Nat → Nat} {N : Nat → Int64} {E : Nat} {M M' : Mem}
theorem QS.go {i d n : Nat} {W : List Nat} {j : Nat} (S : QS i d n W M) (a : M'.1 67 13 = 0) (b : M'.1 67 11 = nI j) (c : M'.1 100 = M.1 100) (e : M'.1 67 49 = M.1 67 49) (g : M'.1 67 45 = M.1 67 45) (h : M'.1 67 12 = M.1 67 12) : QS j d n W M' := ⟨a, b, h.trans S.2.2.1, e.trans S.2.2.2.1, g.trans S.2.2.2.2.1, S.2.2.2.2.2.of (fun q _ => congrFun c q)⟩
theorem r_one1 {d i n fu a b : Nat} {W : List Nat} (hH : H ≤ 840) (w : wfK K P V E) (T : tokM K P V N E M) (hi : i ≤ E) (S : QS i d n W M) (hn : n + 420 ≤ H + i) (hfu : 401 - i ≤ fu) (h0 : K i ≠ 0) (h3 : K i ≠ 3) : RO H K P E d i n 2 W M (((f_X12_emit (nI a) (nI b) M).bind fun M22 => (f_X12_goesOn M22).bind fun M24 => some M24).bind fun M20 => if M20.1 67 13 ≤ 0 then RB fu FU M20 else some M20) (if i < 400 then .ok ([(a, b)], i + 1) else .error (2, i)) := by
  have hE := w.1
  obtain ⟨M1, e1, f1, g1, c1, c2, c3, c4, k1⟩ := r_emit0 hH (x := nI a) (y := nI b) S.2.2.2.2.1 (by omega)
  have S1 : QS i d (n + 1) W M1 := ⟨(k1 13 (by decide)).trans S.1, (k1 11 (by decide)).trans S.2.1, (k1 12 (by decide)).trans S.2.2.1, (k1 49 (by decide)).trans S.2.2.2.1, g1, S.2.2.2.2.2.of (fun q _ => congrFun c4 q)⟩
  obtain ⟨M2, e2, f2, a1, a2, b1, b2, b3, b4⟩ := r_go0 (n := n + 1) w (T.qf f1) hi S1.1 S1.2.1
  rw [e1, sb, e2, sb, sb]
  by_cases h4 : i < 400
  · obtain ⟨d1, d2, d3, d4⟩ := a1 h4
    rw [if_pos h4, d1, if_pos (by decide)]
    refine ⟨M2, fu, FU, [], [(a, b)], rfl, f1.tr f2 (by omega), S1.go d1 d2 b1 b2 b3 b4, ⟨⟨?_, ?_⟩, trivial⟩, rfl, (fun k hk => by cases hk), by decide, by show 401 - (i + 1) ≤ fu; omega, by omega, by show i < i + 1; omega, w.nx hi h0 h3 h4, by show i + 1 ≤ i + 1; omega, fun l a b => by omega⟩
    · rw [d3]; exact c1
    · rw [d4]; exact c2
  · rw [if_neg h4, if_neg (a2 h4).nl]
    exact ⟨M2, rfl, f1.tr f2 (by omega), a2 h4⟩
theorem r_ru {f d i n fu g : Nat} {W : List Nat} (hH : H ≤ 840) (w : wfK K P V E) (hd : d ≤ 6) (IH : d < 6 → ∀ i n W M fu g, i ≤ E → tokM K P V N E M → QS i (d + 1) n W M → n + 420 ≤ H + i → W.length ≤ 3 * (d + 1) → tpW 0 W → 401 - i ≤ fu → 8 - (d + 1) ≤ g → RO H K P E (d + 1) i n 0 W M (RP fu g M) (rdG K V f 0 (d + 1) i)) (hi : i ≤ E) (T : tokM K P V N E M) (S : QS i d n W M) (hn : n + 420 ≤ H + i) (hW : W.length ≤ 3 * d + 2) (hfu : 401 - i ≤ fu) (hg : 8 - d ≤ g) : RO H K P E d i n 2 W M (RP fu g M) (rdG K V (f + 1) 2 d i) := by
  have hE := w.1
  have hFU : FU = 1000000 := rfl
  have hK := (w.2.1 i hi).1
  obtain ⟨g, rfl⟩ : ∃ q, g = q + 1 := ⟨g - 1, by omega⟩
  have i6 : f_X12_is 6 M = some (if K i = 6 then 1 else 0) := r_is0 (k := 6) w T hi S.1 S.2.1 (by omega)
  have i2 : f_X12_is 2 M = some (if K i = 2 then 1 else 0) := r_is0 (k := 2) w T hi S.1 S.2.1 (by omega)
  unfold rdG
  rw [if_neg (by omega : ¬ (2 < 2))]
  by_cases k6 : K i = 6
  · rw [if_pos k6] at i6
    rw [if_neg (by omega : ¬ K i = 2), if_neg (by omega : ¬ (34 ≤ K i ∧ K i ≤ 42)), if_pos k6]
    have push : ∀ {M1 : Mem}, M1.1 67 49 = nI W.length → (pg M1 100 64 (M1.1 67 49) (6 : Int32)).bind (fun M15 => lt (sI M15 67 49 ((M15.1 67 49) + (1 : Int32))) fun M16 => f_X12_expression_L23 g 0 M16) = f_X12_expression_L23 g 0 (sI (sI M1 100 W.length 6) 67 49 (nI (W.length + 1))) := fun {M1} h => by
      have : (sI M1 100 W.length 6).1 67 49 = nI W.length := (congrFun (sI_cell (by decide)) 49).trans h
      rw [h, pg_n (by omega) (by omega), sb, this, nI_1, lt_def]
    have pQ : ∀ {M1 : Mem} {n}, QF H n M1 (sI (sI M1 100 W.length 6) 67 49 (nI (W.length + 1))) := QF.wt.tr (QF.fd (by decide)) (Nat.le_refl _)
    have pD : ∀ {M1 : Mem} {e p}, QD e p M1 → QD e p (sI (sI M1 100 W.length 6) 67 49 (nI (W.length + 1))) := fun {M1 e p} h => by
      have fld : ∀ q, q ≠ 49 → (sI (sI M1 100 W.length 6) 67 49 (nI (W.length + 1))).1 67 q = M1.1 67 q := fun q hq => (sI_ix hq).trans (congrFun (sI_cell (by decide)) q)
      obtain ⟨a, ha, h1⟩ := h.2.2
      exact ⟨⟨(fld 13 (by decide)).trans h.1.1, h.1.2⟩, (fld 14 (by decide)).trans h.2.1, a, ha, (fld 11 (by decide)).trans h1⟩
    obtain ⟨g, rfl⟩ : ∃ q, g = q + 1 := ⟨g - 1, by omega⟩
    by_cases d6 : d < 6
    · rw [if_neg (by omega : ¬ 6 ≤ d)]
      have n6 : ¬ M.1 67 12 = 6 := by
        rw [S.2.2.1]
        exact fun z => by have := nI_inj (b := 6) (by omega) (by omega) z; omega
      let M1 := sI M 67 12 (nI (d + 1))
      obtain ⟨M2, e2, f2, a1, a2, b1, b2, b3, b4⟩ := r_go0 (H := H) (M := M1) (n := n) (i := i) w (T.qf (H := H) (n := n) (QF.fd (by decide))) hi ((sI_ix (by decide)).trans S.1) ((sI_ix (by decide)).trans S.2.1)
      have F2 : QF H n M M2 := (QF.fd (by decide)).tr f2 (Nat.le_refl _)
      have h49 : M2.1 67 49 = nI W.length := b2.trans ((sI_ix (by decide)).trans S.2.2.2.1)
      let M3 := sI (sI M2 100 W.length 6) 67 49 (nI (W.length + 1))
      have run : RP fu (g + 1 + 1) M = RP fu (g + 1) M3 := by
        show ((f_X12_expression_L23 (g + 1 + 1) 0 M).bind fun t17 => (f_X12_unit t17).bind fun M20 => if M20.1 67 13 ≤ 0 then RB fu FU M20 else some M20) = _
        rw [f_X12_expression_L23, i6, sb, if_neg (by decide), if_neg n6, sb, S.2.2.1, nI_1, lt_def, show f_X12_goesOn (sI M 67 12 (nI (d + 1))) = some M2 from e2, sb, push h49]
        rfl
      rw [run]
      by_cases h4 : i < 400
      · obtain ⟨d1, d2, d3, d4⟩ := a1 h4
        rw [if_pos h4]
        have fld : ∀ q, q ≠ 49 → M3.1 67 q = M2.1 67 q := fun q hq => (sI_ix hq).trans (congrFun (sI_cell (by decide)) q)
        have S3 : QS (i + 1) (d + 1) n (6 :: W) M3 := ⟨(fld 13 (by decide)).trans d1, (fld 11 (by decide)).trans d2, (fld 12 (by decide)).trans (b4.trans sI_same), sI_same, (fld 45 (by decide)).trans (b3.trans ((sI_ix (by decide)).trans S.2.2.2.2.1)), (congrFun (sI_cell (by decide)) W.length).trans sI_same, S.2.2.2.2.2.of (fun q hq => (congrFun (sI_cell (by decide)) q).trans ((sI_ix (by omega)).trans ((congrFun b1 q).trans rfl)))⟩
        have hi1 := w.nx hi (by omega) (by omega) h4
        have T3 : tokM K P V N E M3 := (T.qf F2).qf (H := H) (n := n) pQ
        have F3 : QF H n M M3 := F2.tr pQ (Nat.le_refl _)
        have R := IH d6 (i + 1) n (6 :: W) M3 fu (g + 1) hi1 T3 S3 (by omega) (by rw [List.length_cons]; omega) (Or.inl rfl) (by omega) (by omega)
        cases hr : rdG K V f 0 (d + 1) (i + 1) with
        | error x =>
          rw [hr] at R
          obtain ⟨M4, r1, r2, r3⟩ := R
          exact ⟨M4, r1, F3.tr r2 (Nat.le_refl _), r3⟩
        | ok r =>
          rw [hr] at R
          obtain ⟨M4, fu4, h4', p4, c4, r1, r2, r3, r4, r5, r6, r7, r8, r9, r10, r11, r12, r13⟩ := R
          have r5l : r.1.length = c4.length + p4.length := by rw [← r5, List.length_append, flR_l]
          have F4 : QF H n M M4 := F3.tr r2 (Nat.le_refl _)
          have T4 := T3.qf r2
          have pwl : (p4 ++ 6 :: W).length = p4.length + (W.length + 1) := by rw [List.length_append, List.length_cons]
          have nop : ¬ lvK (K r.2) < 2 := fun z => r13 (lvK (K r.2)) (by omega) z rfl
          have i7 : f_X12_is 7 M4 = some (if K r.2 = 7 then 1 else 0) := r_is0 (k := 7) w T4 r11 r3.1 r3.2.1 (by omega)
          rw [r1]
          show RO H K P E d i n 2 W M (RB fu4 h4' M4) (if K r.2 = 7 then (if r.2 < 400 then .ok (r.1, r.2 + 1) else .error (2, r.2)) else .error (1, r.2))
          obtain ⟨h5, rfl⟩ : ∃ q, h4' = q + 1 := ⟨h4' - 1, by omega⟩
          obtain ⟨h5, rfl⟩ : ∃ q, h5 = q + 1 := ⟨h5 - 1, by omega⟩
          by_cases k7 : K r.2 = 7
          · rw [if_pos k7] at i7
            rw [if_pos k7]
            obtain ⟨M5, e5, f5, S5, C5, -⟩ := r_outA hH (i := r.2) (d := d + 1) (lv := 0) (W := 6 :: W) (by omega) (Or.inl rfl) p4 FU (n + c4.length) M4 r6 (by omega) (by rw [pwl]; omega) (by omega) r3
            have h49 : M5.1 67 49 = nI (W.length + 1) := S5.2.2.2.1
            let M6 := sI (sI M5 67 49 (nI W.length)) 67 12 (nI d)
            have e12 : (sI M5 67 49 (nI W.length)).1 67 12 = nI (d + 1) := (sI_ix (by decide)).trans S5.2.2.1
            have f6 : QF H (n + c4.length + p4.length) M5 M6 := (QF.fd (by decide)).tr (QF.fd (by decide)) (Nat.le_refl _)
            have S6 : QS r.2 d (n + c4.length + p4.length) W M6 := ⟨(sI_ix (by decide)).trans ((sI_ix (by decide)).trans S5.1), (sI_ix (by decide)).trans ((sI_ix (by decide)).trans S5.2.1), sI_same, (sI_ix (by decide)).trans sI_same, (sI_ix (by decide)).trans ((sI_ix (by decide)).trans S5.2.2.2.2.1), S5.2.2.2.2.2.2.of (fun _ _ => rfl)⟩
            have T6 := (T4.qf f5).qf f6
            obtain ⟨M7, e7, f7, x1, x2, y1, y2, y3, y4⟩ := r_go0 (n := n + c4.length + p4.length) w T6 r11 S6.1 S6.2.1
            have run7 : RB fu4 (h5 + 1 + 1) M4 = RB fu4 (h5 + 1) M7 := by
              show ((f_X12_expression_L96 (h5 + 1 + 1) 0 M4).bind fun t32 => tlR fu4 t32) = _
              rw [f_X12_expression_L96, i7, sb, if_neg (by decide), r3.2.2.1, if_neg (nI_nle (by omega) (by omega))]
              unfold f_X12_comesOut
              rw [show f_X12_comesOut_L0 (fun t15 => some t15) FU 0 M4 = some M5 from e5, sb, h49, nI_pred, lt_def, e12, nI_pred, lt_def, show f_X12_goesOn (sI (sI M5 67 49 (nI W.length)) 67 12 (nI d)) = some M7 from e7, sb]
              rfl
            rw [run7]
            have F7 : QF H n M M7 := (F4.tr (f5.tr (f6.tr f7 (Nat.le_refl _)) (by omega)) (by omega)) |> fun h => ⟨h.1, h.2.1, fun q hq => h.2.2.1 q (by omega), h.2.2.2⟩
            by_cases h44 : r.2 < 400
            · rw [if_pos h44]
              obtain ⟨z1, z2, z3, z4⟩ := x1 h44
              refine ⟨M7, fu4, h5 + 1, [], r.1, rfl, F7, ?_, ?_, List.append_nil _, (fun k hk => by cases hk), by decide, by show 401 - (r.2 + 1) ≤ fu4; omega, by omega, by show i < r.2 + 1; omega, w.nx r11 (by omega) (by omega) h44, by show i + r.1.length ≤ r.2 + 1; omega, fun l a b => by omega⟩
              · rw [r5l, ← Nat.add_assoc]
                exact S6.go z1 z2 y1 y2 y3 y4
              · rw [← r5]
                have q9 : ∀ q, M7.1 98 q = M5.1 98 q ∧ M7.1 99 q = M5.1 99 q := fun q => ⟨(congrFun z3 q).trans rfl, (congrFun z4 q).trans rfl⟩
                refine CM.app (r4.of (fun q q1 q2 => ?_)) (C5.of (fun q _ _ => q9 q))
                have := f5.2.2.1 q (by omega)
                exact ⟨(q9 q).1.trans this.1, (q9 q).2.trans this.2⟩
            · rw [if_neg h44]
              have D7 := x2 h44
              obtain ⟨M8, e8, f8, D8⟩ := tl_dead hH (fu := fu4) (W := W) (n := n + c4.length + p4.length) D7 (y2.trans S6.2.2.2.1) (by omega) (y3.trans S6.2.2.2.2.1) (by omega)
              refine ⟨M8, ?_, F7.tr f8 (by omega), D8⟩
              unfold RB
              rw [f_X12_expression_L96, r_isD D7, sb, if_pos rfl, sb, e8]
          · rw [if_neg k7]
            rw [RB_s w T4 r11 r3.1 r3.2.1 k7 (by omega), tl_no w T4 r11 r3.1 r3.2.1 nop, r3.2.2.1, if_neg (nI_nle (by omega) (by omega))]
            obtain ⟨M5, e5, f5, D5, y1, y2, y3, y4⟩ := r_fail0 (n := n + c4.length) (x := 1) w T4 r11 r3.1 r3.2.1 (by omega) (by omega)
            obtain ⟨M8, e8, f8, p1, p2, p3⟩ := r_outZ hH (p4 ++ 6 :: W) FU (n + c4.length) M5 (by rw [pwl]; omega) (y2.trans r3.2.2.2.1) (by rw [pwl]; omega) (y3.trans r3.2.2.2.2.1) (by rw [pwl]; omega)
            obtain ⟨a, ha, h1⟩ := D5.2.2
            refine ⟨M8, ?_, (F4.tr (f5.tr f8 (Nat.le_refl _)) (by omega)), ⟨p1.trans D5.1.1, D5.1.2⟩, p2.trans D5.2.1, a, ha, p3.trans h1⟩
            rw [show f_X12_fail 1 M4 = some M5 from e5, sb, sb]
            unfold f_X12_comesOut
            rw [e8, sb]
      · rw [if_neg h4, RP_d (pD (a2 h4))]
        exact ⟨M3, rfl, F2.tr pQ (Nat.le_refl _), pD (a2 h4)⟩
    · rw [if_pos (by omega : 6 ≤ d)]
      have n6 : M.1 67 12 = 6 := by
        rw [S.2.2.1, show d = 6 by omega]
        rfl
      obtain ⟨M1, e1, f1, D1, y1, y2, y3, y4⟩ := r_fail0 (n := n) (x := 2) w T hi S.1 S.2.1 (by omega) (by omega)
      have D2 : QD 2 (P i) (sI M1 67 12 (M1.1 67 12 + 1)) := by
        obtain ⟨a, ha, h1⟩ := D1.2.2
        exact ⟨⟨(sI_ix (by decide)).trans D1.1.1, D1.1.2⟩, (sI_ix (by decide)).trans D1.2.1, a, ha, (sI_ix (by decide)).trans h1⟩
      obtain ⟨M2, e2, f2, D2', b1, b2, b3, b4⟩ := r_goD (n := n) D2
      have h49 : M2.1 67 49 = nI W.length := b2.trans ((sI_ix (by decide)).trans (y2.trans S.2.2.2.1))
      refine ⟨sI (sI M2 100 W.length 6) 67 49 (nI (W.length + 1)), ?_, ((f1.tr (QF.fd (by decide)) (Nat.le_refl _)).tr f2 (Nat.le_refl _)).tr pQ (Nat.le_refl _), pD D2'⟩
      rw [← RP_d (fu := fu) (g := g) (pD D2')]
      show ((f_X12_expression_L23 (g + 1 + 1) 0 M).bind fun t17 => (f_X12_unit t17).bind fun M20 => if M20.1 67 13 ≤ 0 then RB fu FU M20 else some M20) = _
      rw [f_X12_expression_L23, i6, sb, if_neg (by decide), if_pos n6, show f_X12_fail 2 M = some M1 from e1, sb, sb, lt_def, e2, sb, push h49]
      rfl
  · rw [if_neg k6] at i6
    have run : RP fu (g + 1) M = (f_X12_unit M).bind fun M20 => if M20.1 67 13 ≤ 0 then RB fu FU M20 else some M20 := by
      unfold RP
      rw [f_X12_expression_L23, i6, sb, if_pos rfl, sb]
    rw [run]
    unfold f_X12_unit
    by_cases k2 : K i = 2
    · rw [if_pos k2] at i2
      rw [if_pos k2, i2, sb, if_neg (by decide), S.2.1, ag_n (by omega) (by omega), sb, (T i hi).2.2.1 k2]
      exact r_one1 hH (a := 0) (b := V i) w T hi S hn hfu (by omega) (by omega)
    · rw [if_neg k2] at i2
      rw [if_neg k2, i2, sb, if_pos rfl, S.1, if_pos rfl, S.2.1, ag_n (by omega) (by omega), sb, (T i hi).1, li 34, li 42]
      by_cases k34 : 34 ≤ K i
      · rw [if_neg (nI_nlt k34 (by omega)), sb, if_neg (nI_nlt (by omega) (by omega)), if_pos ⟨k34, by omega⟩, sb, sub_n2 k34]
        exact r_one1 hH (a := 1) (b := K i - 34) w T hi S hn hfu (by omega) (by omega)
      · rw [if_pos (nI_lt (by omega) (by omega)), if_neg (by omega : ¬ (34 ≤ K i ∧ K i ≤ 42)), if_neg k6]
        obtain ⟨M1, e1, f1, D1, -⟩ := r_fail0 (n := n) (x := 1) w T hi S.1 S.2.1 (by omega) (by omega)
        rw [show f_X12_fail 1 M = some M1 from e1, sb, sb, if_neg D1.nl]
        exact ⟨M1, rfl, f1, D1⟩
theorem r_rd (hH : H ≤ 840) (w : wfK K P V E) : ∀ (f lv d : Nat), lv ≤ 2 → d ≤ 6 → 3 - lv + 3 * (6 - d) ≤ f → ∀ (i n : Nat) (W : List Nat) (M : Mem) (fu g : Nat), i ≤ E → tokM K P V N E M → QS i d n W M → n + 420 ≤ H + i → W.length ≤ 3 * d + lv → (lv < 2 → tpW lv W) → 401 - i ≤ fu → 8 - d ≤ g → RO H K P E d i n lv W M (RP fu g M) (rdG K V f lv d i)
  | 0, lv, d, hlv, hd, hf => absurd hf (by omega)
  | f + 1, lv, d, hlv, hd, hf => by
    intro i n W M fu g hi T S hn hW ht hfu hg
    have hE := w.1
    by_cases h2 : lv < 2
    · unfold rdG
      rw [if_pos h2]
      have R := r_rd hH w f (lv + 1) d (by omega) hd (by omega) i n W M fu g hi T S hn (by omega) (fun q => by
        have := ht h2
        cases W with
        | nil => trivial
        | cons x r =>
          rcases this with h | h
          · exact Or.inl h
          · omega) hfu hg
      cases hr : rdG K V f (lv + 1) d i with
      | error x =>
        rw [hr] at R
        exact R
      | ok r =>
        rw [hr] at R
        obtain ⟨M4, fu4, h4', p4, c4, r1, r2, r3, r4, r5, r6, r7, r8, r9, r10, r11, r12, r13⟩ := R
        have R2 := r_loop hH (f := f) (i0 := i) (n := n) w h2 hd (ht h2) hW hn (fun i n W M fu g a b c d' e h k l => r_rd hH w f (lv + 1) d (by omega) hd (by omega) i n W M fu g a b c d' e h k l) 401 r.2 fu4 h4' c4 p4 M4 (fun k hk => by have := r6 k hk; omega) (by omega) r3 r4 (T.qf r2) r8 r9 r10 r11 (by rw [r5]; exact r12) r13 (by omega)
        rw [r5] at R2
        rw [r1]
        show RO H K P E d i n lv W M (RB fu4 h4' M4) (rdL K (rdG K V f (lv + 1) d) lv 401 r.1 r.2)
        cases hq : rdL K (rdG K V f (lv + 1) d) lv 401 r.1 r.2 with
        | error x =>
          rw [hq] at R2
          obtain ⟨M5, s1, s2, s3⟩ := R2
          exact ⟨M5, s1, r2.tr s2 (Nat.le_refl _), s3⟩
        | ok y =>
          rw [hq] at R2
          obtain ⟨M5, fu5, h5, p5, c5, s1, s2, s3⟩ := R2
          exact ⟨M5, fu5, h5, p5, c5, s1, r2.tr s2 (Nat.le_refl _), s3⟩
    · obtain rfl : lv = 2 := by omega
      exact r_ru hH w hd (fun d6 i n W M fu g a b c d' e h k l => r_rd hH w f 0 (d + 1) (by omega) (by omega) (by omega) i n W M fu g a b c d' (by omega) (fun _ => h) k l) hi T S hn hW hfu hg
/-- the whole expression -/
theorem r_expr {i n x : Nat} (hH : H ≤ 840) (w : wfK K P V E) (T : tokM K P V N E M) (hi : i ≤ E) (h13 : M.1 67 13 = 0) (h11 : M.1 67 11 = nI i) (h12 : M.1 67 12 = 0) (h45 : M.1 67 45 = nI n) (hn : n + 420 ≤ H + i) : ∃ M', f_X12_expression M = some M' ∧ QF H n M M' ∧ (∀ r, rdG K V 21 0 0 i = .ok r → M'.1 67 13 = 0 ∧ M'.1 67 11 = nI r.2 ∧ M'.1 67 12 = 0 ∧ M'.1 67 45 = nI (n + r.1.length) ∧ CM M' n r.1 ∧ i < r.2 ∧ r.2 ≤ E ∧ i + r.1.length ≤ r.2) ∧ ∀ x, rdG K V 21 0 0 i = .error x → QD x.1 (P x.2) M' := by
  have hE := w.1
  have hFU : FU = 1000000 := rfl
  let M1 := sI M 67 49 0
  have f1 : QF H n M M1 := QF.fd (by decide)
  have S1 : QS i 0 n [] M1 := ⟨(sI_ix (by decide)).trans h13, (sI_ix (by decide)).trans h11, (sI_ix (by decide)).trans h12, sI_same, (sI_ix (by decide)).trans h45, trivial⟩
  have R := r_rd hH w 21 0 0 (by omega) (by omega) (by omega) i n [] M1 999999 FU hi (T.qf f1) S1 hn (by decide) (fun _ => trivial) (by omega) (by omega)
  have run : f_X12_expression M = RP 999999 FU M1 := by
    have e12 : M1.1 67 12 = 0 := (sI_ix (by decide)).trans h12
    unfold f_X12_expression
    rw [lt_def, lt_def, show (sI M 67 49 0).1 67 12 = 0 from e12, show FU = 999999 + 1 from rfl]
    exact RA_e S1.1
  rw [run]
  cases hr : rdG K V 21 0 0 i with
  | error y =>
    rw [hr] at R
    obtain ⟨M2, r1, r2, r3⟩ := R
    exact ⟨M2, r1, f1.tr r2 (Nat.le_refl _), (fun r e => by cases e), (fun x e => by cases e; exact r3)⟩
  | ok r =>
    rw [hr] at R
    obtain ⟨M4, fu4, h4', p4, c4, r1, r2, r3, r4, r5, r6, r7, r8, r9, r10, r11, r12, r13⟩ := R
    have r5l : r.1.length = c4.length + p4.length := by rw [← r5, List.length_append, flR_l]
    have T4 := (T.qf f1).qf r2
    have nop : ¬ lvK (K r.2) < 2 := fun z => r13 (lvK (K r.2)) (by omega) z rfl
    obtain ⟨M5, e5, f5, S5, C5, -⟩ := r_outA hH (i := r.2) (d := 0) (lv := 0) (W := []) (by omega) trivial p4 FU (n + c4.length) M4 r6 (by omega) (by rw [List.append_nil]; omega) (by omega) r3
    refine ⟨M5, ?_, f1.tr (r2.tr f5 (by omega)) (Nat.le_refl _), fun y e => ?_, (fun x e => by cases e)⟩
    · rw [r1]
      have L : f_X12_expression_L96 h4' 0 M4 = some M4 := by
        obtain ⟨q, rfl⟩ : ∃ q, h4' = q + 1 := ⟨h4' - 1, by omega⟩
        have i7 : f_X12_is 7 M4 = some (if K r.2 = 7 then 1 else 0) := r_is0 (k := 7) w T4 r11 r3.1 r3.2.1 (by omega)
        rw [f_X12_expression_L96, i7, sb, r3.2.2.1, if_pos (show nI 0 ≤ 0 by decide), ite_self]
      unfold RB
      rw [L, sb, tl_no w T4 r11 r3.1 r3.2.1 nop, r3.2.2.1, if_pos (show nI 0 ≤ 0 by decide), sb]
      unfold f_X12_comesOut
      rw [show f_X12_comesOut_L0 (fun t15 => some t15) FU 0 M4 = some M5 from e5, sb]
    · cases e
      refine ⟨S5.1, S5.2.1, S5.2.2.1, by rw [r5l, ← Nat.add_assoc]; exact S5.2.2.2.2.1, ?_, r10, r11, r12⟩
      rw [← r5]
      exact CM.app (r4.of (fun q q1 q2 => f5.2.2.1 q (by omega))) C5
end REW

-- 66.stand: pure: best
section STD
variable {F : Nat → (Nat → Int32) → Int32} {τ : Nat → Nat → Nat} {ρ tt : Nat → Nat} {t v b la : Nat}
theorem ltW_s (w : Nat → Nat) (y c : Nat) : ltW ρ w (y + 1) c = ltW ρ w y c + if w y = c then ρ (6 + y) else 0 := rfl
theorem g6_s (y : Nat) : gsN6 ρ (y + 1) = gsN6 ρ y + ρ (6 + y) := rfl
theorem c_stand (hw : wfT τ) (wn : wfN τ ρ) (G : tgT τ ρ tt b) (hla : la < tY τ) (hz : ∀ j, la < j → j < tY τ → ρ (6 + j) = 0) : ∀ (k q y : Nat) (w : Nat → Nat) (M : Mem), y + k = la → k < q → stX τ ρ t la M → (∀ j, j < y → w j < tC τ) → (∀ c, c < 7 → M.1 50 c = nI (ltW ρ w y c)) → (∀ j, j < y → M.1 52 j = nI (w j)) → (∀ j, la < j → j < 6 → M.1 52 j = 0) → (nbS b M ∨ fbS τ tt b M) → (eqP tt w y ∨ ltP tt w y ∨ fbS τ tt b M) → ∃ M', n_X5_stand q 60 (nI y) (nI (gsN6 ρ (tY τ) - gsN6 ρ y)) M = some M' ∧ SF M M' ∧ (∀ c, c < 7 → M'.1 50 c = M.1 50 c) ∧ (∀ j, j < y → M'.1 52 j = M.1 52 j) ∧ (∀ j, la < j → j < 6 → M'.1 52 j = 0) ∧ (fbS τ tt b M ∨ eqP tt w y → fbS τ tt b M') ∧ (nbS b M → ltP tt w y → nbS b M')
  | 0, q, y, w, M, hk, hq, X, hwc, hl, hwh, h0, st, pre => by
    have : y = la := by omega
    subst this
    have hY : tY τ ≤ 6 := hw.2.2.1
    obtain ⟨q', rfl⟩ : ∃ q', q = q' + 1 := ⟨q - 1, by omega⟩
    obtain ⟨M', e, r⟩ := c_last hw wn G X hla hz hwc hl hwh h0 st pre
    refine ⟨M', ?_, r⟩
    show g_X5_stand (n_X5_stand q') 60 _ _ M = _
    unfold g_X5_stand
    rw [X.2.2, if_neg (nI_nlt' (nI_le (Nat.le_refl _) (by omega))), e, sb]
  | k + 1, q, y, w, M, hk, hq, X, hwc, hl, hwh, h0, st, pre => by
    have hY : tY τ ≤ 6 := hw.2.2.1
    have hC : tC τ ≤ 7 := hw.1
    have hyY : y < tY τ := by omega
    obtain ⟨q', rfl⟩ : ∃ q', q = q' + 1 := ⟨q - 1, by omega⟩
    have tcp : 0 < tC τ := by have := wn.1 y hyY; omega
    have g9 := (wn.2.1 y (by omega)).1
    have gY := g6_le wn (tY τ) hY
    have gm := g6_mono (ρ := ρ) (show y + 1 ≤ tY τ by omega)
    rw [g6_s] at gm
    have b10 : b ≤ 10 := by rw [← G.2.2.2.1]; exact ct_10 hw _
    have eh := c_hope hw wn X (show y ≤ tY τ by omega) hl
    obtain ⟨lo, el, hlo⟩ := c_low (show y < 6 by omega) X wn hwh
    have hp10 : hpN τ ρ w y ≤ 10 := by
      have hS : tS τ ≤ 10 := hw.2.1
      have h : hpN τ ρ w y ≤ tS τ * 1 := sumN_le (fun k hk => by split <;> omega)
      omega
    obtain ⟨hi, hhi⟩ : ∃ hi, hi = if ρ (6 + y) = 0 then 0 else tC τ - 1 := ⟨_, rfl⟩
    have hi7 : hi < tC τ := by rw [hhi]; split <;> omega
    have lo7 : lo < tC τ := by
      rcases hlo with ⟨j, j1, j2, j3⟩ | h
      · rw [j3]; exact hwc j j1
      · omega
    have lot : eqP tt w y → lo ≤ tt y := fun h => by
      rcases hlo with ⟨j, j1, j2, j3⟩ | h2
      · rw [j3, h j j1]; exact G.2.1 j y j1 hyY j2
      · omega
    have thi : tt y ≤ hi := by
      have h1 := G.2.2.1 y hyY
      rw [hhi]
      by_cases e : ρ (6 + y) = 0
      · rw [if_pos e, G.1 y hyY e]; exact Nat.le_refl _
      · rw [if_neg e]; omega
    have hpb : eqP tt w y → b ≤ hpN τ ρ w y := fun h => by
      rw [← G.2.2.2.1]
      exact hp_ge hw (by omega) (fun j hj => (h j hj).symm)
    -- the corners one by one
    have loop : ∃ A, f_X5_stand_L61 (n_X5_stand q') 60 FU (nI y) (nI (gsN6 ρ (tY τ) - gsN6 ρ y)) (nI (hpN τ ρ w y)) (nI (ρ (6 + y))) (nI hi) (nI lo) M = some A ∧ SF M A ∧ (∀ c, c < 7 → A.1 50 c = M.1 50 c) ∧ (∀ j, j < y → A.1 52 j = M.1 52 j) ∧ (∀ j, la < j → j < 6 → A.1 52 j = 0) ∧ (fbS τ tt b M → fbS τ tt b A) ∧ (nbS b M → ltP tt w y → nbS b A) ∧ (nbS b M → eqP tt w y → fbS τ tt b A) := by
      by_cases hlh : hi < lo
      · refine ⟨M, ?_, SF.rf, fun _ _ => rfl, fun _ _ => rfl, h0, id, fun h _ => h, fun h1 h2 => absurd (lot h2) (by omega)⟩
        rw [show FU = 999999 + 1 from rfl, f_X5_stand_L61, if_pos (nI_lt' hlh (by omega))]
      · refine loopX (fun fu c (s : Mem) => f_X5_stand_L61 (n_X5_stand q') 60 fu (nI y) (nI (gsN6 ρ (tY τ) - gsN6 ρ y)) (nI (hpN τ ρ w y)) (nI (ρ (6 + y))) (nI hi) (nI c) s) (fun c s => SF M s ∧ (∀ c, c < 7 → s.1 50 c = M.1 50 c) ∧ (∀ j, j < y → s.1 52 j = M.1 52 j) ∧ (∀ j, la < j → j < 6 → s.1 52 j = 0) ∧ (fbS τ tt b M → fbS τ tt b s) ∧ (nbS b M → ltP tt w y → nbS b s) ∧ (nbS b M → eqP tt w y → (c ≤ tt y → nbS b s) ∧ (tt y < c → fbS τ tt b s))) (fun A => SF M A ∧ (∀ c, c < 7 → A.1 50 c = M.1 50 c) ∧ (∀ j, j < y → A.1 52 j = M.1 52 j) ∧ (∀ j, la < j → j < 6 → A.1 52 j = 0) ∧ (fbS τ tt b M → fbS τ tt b A) ∧ (nbS b M → ltP tt w y → nbS b A) ∧ (nbS b M → eqP tt w y → fbS τ tt b A)) (hi + 1) (fun fu s hP => ?_) (fun fu c s hc hP => ?_) (hi + 1 - lo) lo FU M (by omega) (by show hi + 1 - lo < 1000000; omega) ⟨SF.rf, fun _ _ => rfl, fun _ _ => rfl, h0, id, fun h _ => h, fun h1 h2 => ⟨fun _ => h1, fun z => absurd (lot h2) (by omega)⟩⟩
        · obtain ⟨p1, p2, p3, p4, p5, p6, p7⟩ := hP
          refine ⟨s, ?_, p1, p2, p3, p4, p5, p6, fun h1 h2 => (p7 h1 h2).2 (by omega)⟩
          show f_X5_stand_L61 _ 60 (fu + 1) _ _ _ _ _ _ _ = _
          rw [f_X5_stand_L61, if_pos (nI_lt' (by omega) (by omega))]
        · obtain ⟨p1, p2, p3, p4, p5, p6, p7⟩ := hP
          -- what stands now as most
          obtain ⟨m, hm, em⟩ : ∃ m, m ≤ b ∧ s.1 48 1 = nI m := by
            rcases st with h | h
            · rcases pre with q | q | q
              · by_cases hh : c ≤ tt y
                · obtain ⟨m, m1, m2⟩ := (p7 h q).1 hh; exact ⟨m, by omega, m2⟩
                · exact ⟨b, Nat.le_refl _, ((p7 h q).2 (by omega)).1⟩
              · obtain ⟨m, m1, m2⟩ := p6 h q; exact ⟨m, by omega, m2⟩
              · exact ⟨b, Nat.le_refl _, (p5 q).1⟩
            · exact ⟨b, Nat.le_refl _, (p5 h).1⟩
          show (∃ a, f_X5_stand_L61 _ 60 (fu + 1) _ _ _ _ _ _ _ = some a ∧ _) ∨ ∃ s', f_X5_stand_L61 _ 60 (fu + 1) _ _ _ _ _ _ _ = f_X5_stand_L61 _ 60 fu _ _ _ _ _ _ _ ∧ _
          rw [f_X5_stand_L61, if_neg (nI_nlt' (nI_le (by omega) (by omega))), em]
          by_cases hst : hpN τ ρ w y ≤ m
          · left
            rw [if_pos (nI_le hst (by omega))]
            refine ⟨s, rfl, p1, p2, p3, p4, p5, p6, fun h1 h2 => ?_⟩
            by_cases hh : c ≤ tt y
            · exfalso
              obtain ⟨m', m1, m2⟩ := (p7 h1 h2).1 hh
              rw [em] at m2
              have := nI_inj (by omega) (by omega) m2
              have := hpb h2
              omega
            · exact (p7 h1 h2).2 (by omega)
          · right
            rw [if_neg (nI_ge (by omega) (by omega))]
            have hcC : c < tC τ := by omega
            let w' : Nat → Nat := fun j => if j = y then c else w j
            have w'o : ∀ j, j < y → w' j = w j := fun j hj => if_neg (by omega)
            have w'y : w' y = c := if_pos rfl
            let s1 : Mem := sI s 52 y (nI c)
            have s50 : s1.1 50 = s.1 50 := sI_cell (by decide)
            have l50 : s1.1 50 c = nI (ltW ρ w y c) := by rw [s50, p2 c (by omega)]; exact hl c (by omega)
            have lle := ltW_le (ρ := ρ) w c y
            have gy6 := g6_le wn y (by omega)
            let s2 : Mem := sI s1 50 c (nI (ltW ρ w y c + ρ (6 + y)))
            have F2 : SF s s2 := (SF.set (by decide) (Or.inl (by decide))).tr (SF.set (by decide) (Or.inl (by decide)))
            have k48 : s2.1 48 = s.1 48 := (sI_cell (by decide)).trans (sI_cell (by decide))
            have k49 : s2.1 49 = s.1 49 := (sI_cell (by decide)).trans (sI_cell (by decide))
            have k52 : s2.1 52 = s1.1 52 := sI_cell (by decide)
            have nb2 : nbS b s ↔ nbS b s2 := by unfold nbS; rw [k48]
            have fb2 : fbS τ tt b s ↔ fbS τ tt b s2 := by unfold fbS; rw [k48, k49]
            have hl2 : ∀ x, x < 7 → s2.1 50 x = nI (ltW ρ w' (y + 1) x) := fun x hx => by
              rw [ltW_s, ltW_cong (w := w') (w' := w) w'o, w'y]
              by_cases e : x = c
              · subst e
                rw [if_pos rfl]; exact sI_same
              · rw [if_neg (fun z => e z.symm)]
                refine (sI_ix e).trans ?_
                rw [s50, p2 x hx]; exact hl x hx
            have hwh2 : ∀ j, j < y + 1 → s2.1 52 j = nI (w' j) := fun j hj => by
              rw [k52]
              by_cases e : j = y
              · subst e; rw [w'y]; exact sI_same
              · rw [w'o j (by omega)]
                refine (sI_ix e).trans ?_
                rw [p3 j (by omega)]; exact hwh j (by omega)
            have h02 : ∀ j, la < j → j < 6 → s2.1 52 j = 0 := fun j j1 j2 => by
              rw [k52]
              exact (sI_ix (by omega)).trans (p4 j j1 j2)
            have st2 : nbS b s ∨ fbS τ tt b s := by
              rcases st with h | h
              · rcases pre with q | q | q
                · by_cases hh : c ≤ tt y
                  · exact Or.inl ((p7 h q).1 hh)
                  · exact Or.inr ((p7 h q).2 (by omega))
                · exact Or.inl (p6 h q)
                · exact Or.inr (p5 q)
              · exact Or.inr (p5 h)
            have pre2 : eqP tt w' (y + 1) ∨ ltP tt w' (y + 1) ∨ fbS τ tt b s := by
              rcases pre with q | q | q
              · rcases Nat.lt_trichotomy c (tt y) with h | h | h
                · exact Or.inr (Or.inl ⟨y, by omega, fun i hi => by rw [w'o i hi]; exact q i hi, by rw [w'y]; exact h⟩)
                · left
                  intro j hj
                  by_cases e : j = y
                  · rw [e, w'y, h]
                  · rw [w'o j (by omega)]; exact q j (by omega)
                · rcases st with z | z
                  · exact Or.inr (Or.inr ((p7 z q).2 h))
                  · exact Or.inr (Or.inr (p5 z))
              · obtain ⟨j, j1, j2, j3⟩ := q
                exact Or.inr (Or.inl ⟨j, by omega, fun i hi => by rw [w'o i (by omega)]; exact j2 i hi, by rw [w'o j j1]; exact j3⟩)
              · exact Or.inr (Or.inr (p5 q))
            obtain ⟨M3, e3, F3, r50, r52, r0, rf, rn⟩ := c_stand hw wn G hla hz k q' (y + 1) w' s2 (by omega) (by omega) ((X.sf p1).sf F2) (fun j hj => by
              by_cases e : j = y
              · rw [e, w'y]; exact hcC
              · rw [w'o j (by omega)]; exact hwc j (by omega)) hl2 hwh2 h02 (st2.imp nb2.mp fb2.mp) (pre2.imp id (Or.imp id fb2.mp))
            have v18 : M3.1 50 c = nI (ltW ρ w y c + ρ (6 + y)) := (r50 c (by omega)).trans sI_same
            let s4 : Mem := sI M3 50 c (nI (ltW ρ w y c))
            have F4 : SF M s4 := ((p1.tr F2).tr F3).tr (SF.set (by decide) (Or.inl (by decide)))
            have k4 : ∀ a, a ≠ 50 → s4.1 a = M3.1 a := fun a ha => sI_cell ha
            have nb4 : nbS b M3 → nbS b s4 := fun ⟨m, m1, m2⟩ => ⟨m, m1, by rw [k4 48 (by decide)]; exact m2⟩
            have fb4 : fbS τ tt b M3 → fbS τ tt b s4 := fun ⟨m1, m2⟩ => ⟨by rw [k4 48 (by decide)]; exact m1, fun j hj => by rw [k4 49 (by decide)]; exact m2 j hj⟩
            refine ⟨s4, ?_, F4, fun x hx => ?_, fun j hj => ?_, fun j j1 j2 => ?_, fun h => ?_, fun h1 h2 => ?_, fun h1 h2 => ⟨fun h3 => ?_, fun h3 => ?_⟩⟩
            · rw [pg_n (by omega) (by omega), sb, ag_n (by omega) (by omega), sb, l50, nI_add, pg_n (by omega) (by omega), sb, nI_1, pk_sub (by omega), show gsN6 ρ (tY τ) - gsN6 ρ y - ρ (6 + y) = gsN6 ρ (tY τ) - gsN6 ρ (y + 1) by rw [g6_s]; omega, e3, sb, ag_n (by omega) (by omega), sb, v18, pk_sub (by omega), pg_n (by omega) (by omega), sb, lt_def, nI_1, show ltW ρ w y c + ρ (6 + y) - ρ (6 + y) = ltW ρ w y c by omega]
            · by_cases e : x = c
              · subst e
                rw [hl x hx]; exact sI_same
              · refine (sI_ix e).trans ((r50 x hx).trans ((sI_ix e).trans ?_))
                rw [s50]; exact p2 x hx
            · refine (congrFun (k4 52 (by decide)) j).trans ((r52 j (by omega)).trans ?_)
              rw [k52]
              exact (sI_ix (by omega)).trans (p3 j hj)
            · exact (congrFun (k4 52 (by decide)) j).trans (r0 j j1 j2)
            · exact fb4 (rf (Or.inl (fb2.mp (p5 h))))
            · refine nb4 (rn (nb2.mp (p6 h1 h2)) ?_)
              obtain ⟨j, j1, j2, j3⟩ := h2
              exact ⟨j, by omega, fun i hi => by rw [w'o i (by omega)]; exact j2 i hi, by rw [w'o j j1]; exact j3⟩
            · exact nb4 (rn (nb2.mp ((p7 h1 h2).1 (by omega))) ⟨y, by omega, fun i hi => by rw [w'o i hi]; exact h2 i hi, by rw [w'y]; omega⟩)
            · apply fb4
              apply rf
              by_cases e : c = tt y
              · right
                intro j hj
                by_cases ej : j = y
                · rw [ej, w'y, e]
                · rw [w'o j (by omega)]; exact h2 j (by omega)
              · exact Or.inl (fb2.mp ((p7 h1 h2).2 (by omega)))
    obtain ⟨A, eA, FA, a50, a52, a0, af, an, ae⟩ := loop
    refine ⟨A, ?_, FA, a50, a52, a0, fun h => ?_, an⟩
    · show g_X5_stand (n_X5_stand q') 60 _ _ M = _
      have ehi : (if nI (ρ (6 + y)) = 0 then some (0 : Int32) else (some t).bind fun t8 => some ((M.1 t8 10) - (1 : Int32))) = some (nI hi) := by
        rw [hhi]
        by_cases e : ρ (6 + y) = 0
        · rw [if_pos e, e, if_pos nI_0]; rfl
        · rw [if_neg e, if_neg (nI_ne0 (by omega) (by omega)), sb, X.1.2.1, li 1, pk_sub (by omega)]
      unfold g_X5_stand
      rw [X.2.2, if_pos (nI_lt' (by omega) (by omega)), rT_n X.2.1.2.1 X.1.1, sb, eh, sb, ag_n (by omega) (by omega), sb, X.g (by omega), ehi, sb, el, sb, eA, sb]
    · rcases h with h | h
      · exact af h
      · rcases st with q | q
        · exact ae q h
        · exact af q
end STD

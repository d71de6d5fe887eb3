-- 46.rhour: pure: an hour of the reference
abbrev rhS : List Nat := [101, 102, 104, 105, 106]
section RHR
variable {F : Nat → (Nat → Int32) → Int32} {τ : Nat → Nat → Nat} {ρ : Nat → Nat} {d : Int32} {v : Nat} {M M' : Mem}
theorem bz_1 : vp_nar .boolean (1 : Int32) = 1 := rfl
theorem bz_0 : vp_nar .boolean (0 : Int32) = 0 := rfl
theorem bz_if {p : Prop} [Decidable p] : vp_nar .boolean (if p then (1 : Int32) else 0) = if p then 1 else 0 := by
  by_cases h : p
  · rw [if_pos h]; rfl
  · rw [if_neg h]; rfl
theorem r_hr1 (C : RX v τ ρ F M) : ∃ M', f_X12_hourGoes_L2 FU 0 M = some M' ∧ FrN [101, 102, 105, 106] M M' ∧ ∀ i, i < tY τ → M'.1 105 i = nI (if ρ (12 + i) = 0 then cwN F τ ρ i else 0) ∧ M'.1 106 i = if ρ (12 + i) = 0 ∧ lvB F τ ρ i = true then 1 else 0 := by
  have hY : tY τ ≤ 6 := C.1.2.2.1
  have hv : v ≤ 1 := C.2.2.1.1
  exact loopQ (fun fu y (s : Mem) => f_X12_hourGoes_L2 fu (nI y) s) (fun y s => FrN [101, 102, 105, 106] M s ∧ ∀ i, i < y → s.1 105 i = nI (if ρ (12 + i) = 0 then cwN F τ ρ i else 0) ∧ s.1 106 i = if ρ (12 + i) = 0 ∧ lvB F τ ρ i = true then 1 else 0) (fun s => FrN [101, 102, 105, 106] M s ∧ ∀ i, i < tY τ → s.1 105 i = nI (if ρ (12 + i) = 0 then cwN F τ ρ i else 0) ∧ s.1 106 i = if ρ (12 + i) = 0 ∧ lvB F τ ρ i = true then 1 else 0) (tY τ) (by omega) (fun fu s hP => by
      have C' := C.fr hP.1.m (by decide)
      refine ⟨s, ?_, hP⟩
      show f_X12_hourGoes_L2 (fu + 1) _ _ = _
      rw [f_X12_hourGoes_L2, C'.2.2.1.2.1, ag_n (by omega) (by omega), sb, C'.2.2.1.2.2.2.2.1, if_pos (nI_le (Nat.le_refl _) (by omega))]) (fun fu y s hy hP => by
      have C' := C.fr hP.1.m (by decide)
      have hb := (C.2.1.2.1 y (by omega)).2.1
      obtain ⟨M1, e1, f1⟩ : ∃ M1, (if nI (ρ (12 + y)) = 0 then (f_X12_coolsOf (nI y) s).bind fun t7 => some (t7.1, t7.2) else some ((0 : Int32), s)) = some (nI (if ρ (12 + y) = 0 then cwN F τ ρ y else 0), M1) ∧ FrN [101, 102, 105, 106] s M1 := by
        by_cases h0 : ρ (12 + y) = 0
        · obtain ⟨M1, e1, f1⟩ := r_cools C' hy
          refine ⟨M1, ?_, f1.sub (by decide)⟩
          rw [h0, if_pos nI_0, e1, sb, if_pos rfl]
        · refine ⟨s, ?_, FrN.rf⟩
          rw [if_neg (nI_ne0 (by omega) (by omega)), if_neg h0]
          rfl
      have f2 : FrN [101, 102, 105, 106] s (sI M1 105 y (nI (if ρ (12 + y) = 0 then cwN F τ ρ y else 0))) := f1.tr (FrN.set (by decide) (by decide))
      obtain ⟨M3, e3, f3⟩ := r_leaves (C'.fr f2.m (by decide)) hy
      right
      refine ⟨sI M3 106 y (if ρ (12 + y) = 0 ∧ lvB F τ ρ y = true then 1 else 0), ?_, ((hP.1.tr f2).tr (f3.sub (by decide))).tr (FrN.set (by decide) (by decide)), fun i hi => ?_⟩
      · show f_X12_hourGoes_L2 (fu + 1) _ _ = f_X12_hourGoes_L2 fu _ _
        rw [f_X12_hourGoes_L2, C'.2.2.1.2.1, ag_n (by omega) (by omega), sb, C'.2.2.1.2.2.2.2.1, if_neg (nI_ge hy (by omega)), li 12, nI_add, ag_n (by omega) (by omega), sb, C'.2.2.2.1.1 (12 + y) (by omega) (by omega), e1, sb, pg_n (by omega) (by omega), sb, e3, sb, pz_n (by omega) (by omega), sb, lt_def, nI_1, bz_if]
      · have k5 : (sI M3 106 y (if ρ (12 + y) = 0 ∧ lvB F τ ρ y = true then 1 else 0)).1 105 = (sI M1 105 y (nI (if ρ (12 + y) = 0 then cwN F τ ρ y else 0))).1 105 := (sI_cell (by decide)).trans (f3.1 105 (by decide) (by decide))
        have k6 : M3.1 106 = M1.1 106 := (f3.1 106 (by decide) (by decide)).trans (sI_cell (by decide))
        by_cases e : i = y
        · subst e
          exact ⟨(congrFun k5 i).trans sI_same, sI_same⟩
        · obtain ⟨a1, a2⟩ := hP.2 i (by omega)
          have c5 : M1.1 105 i = s.1 105 i := by
            by_cases h0 : ρ (12 + y) = 0
            · obtain ⟨M9, e9, f9⟩ := r_cools C' hy
              rw [h0, if_pos nI_0, e9, sb, if_pos rfl] at e1
              cases e1
              rw [f9.1 105 (by decide) (by decide)]
            · rw [if_neg (nI_ne0 (by omega) (by omega)), if_neg h0] at e1
              cases e1
              rfl
          have c6 : M1.1 106 i = s.1 106 i := by
            by_cases h0 : ρ (12 + y) = 0
            · obtain ⟨M9, e9, f9⟩ := r_cools C' hy
              rw [h0, if_pos nI_0, e9, sb, if_pos rfl] at e1
              cases e1
              rw [f9.1 106 (by decide) (by decide)]
            · rw [if_neg (nI_ne0 (by omega) (by omega)), if_neg h0] at e1
              cases e1
              rfl
          exact ⟨(congrFun k5 i).trans ((sI_ix e).trans (c5.trans a1)), (sI_ix e).trans ((congrFun k6 i).trans (c6.trans a2))⟩) M ⟨FrN.rf, fun i hi => absurd hi (by omega)⟩
theorem NR.set {ρ1 ρ2 : Nat → Nat} {k : Nat} {x : Int32} (h : NR 104 τ ρ1 M) (o : ∀ i, i ≠ k → ρ2 i = ρ1 i) (hk : k ≠ 46) (e : x = nI (ρ2 k)) : NR 104 τ ρ2 (sI M 104 k x) := by
  refine ⟨fun i hi h46 => ?_, fun q => ?_, fun q => ?_⟩
  · by_cases ei : i = k
    · rw [ei, sI_same, e]
    · rw [sI_ix ei, o i ei]; exact h.1 i hi h46
  · rw [sI_ix (by omega), o 46 (by omega)]; exact h.2.1 q
  · rw [sI_ix (by omega)]; exact h.2.2 q
theorem r_hr2 (C : RX v τ ρ F M) (hA : ∀ i, i < tY τ → M.1 105 i = nI (if ρ (12 + i) = 0 then cwN F τ ρ i else 0) ∧ M.1 106 i = if ρ (12 + i) = 0 ∧ lvB F τ ρ i = true then 1 else 0) : ∃ M', f_X12_hourGoes_L116 FU d 0 M = some M' ∧ FrN [104] M M' ∧ NR 104 τ (hrY F τ ρ d (tY τ)) M' := by
  have hw := C.1
  have wn := C.2.1
  have hY : tY τ ≤ 6 := C.1.2.2.1
  have hv : v ≤ 1 := C.2.2.1.1
  exact loopQ (fun fu y (s : Mem) => f_X12_hourGoes_L116 fu d (nI y) s) (fun y s => FrN [104] M s ∧ NR 104 τ (hrY F τ ρ d y) s) (fun s => FrN [104] M s ∧ NR 104 τ (hrY F τ ρ d (tY τ)) s) (tY τ) (by omega) (fun fu s hP => by
      have V' := C.2.2.1.fr hP.1.m (by decide)
      refine ⟨s, ?_, hP⟩
      show f_X12_hourGoes_L116 (fu + 1) _ _ _ = _
      rw [f_X12_hourGoes_L116, V'.2.1, ag_n (by omega) (by omega), sb, V'.2.2.2.2.1, if_pos (nI_le (Nat.le_refl _) (by omega))]) (fun fu y s hy hP => by
      have V' := C.2.2.1.fr hP.1.m (by decide)
      obtain ⟨f', nr⟩ := hP
      have hg := (wn.2.1 y (by omega)).1
      obtain ⟨a1, a2⟩ := hA y hy
      have g0 : s.1 104 (6 + y) = nI (ρ (6 + y)) := by rw [nr.1 (6 + y) (by omega) (by omega), hr_6 (by omega), if_neg (by omega)]
      have c5 : s.1 105 y = nI (if ρ (12 + y) = 0 then cwN F τ ρ y else 0) := by rw [f'.1 105 (by decide) (by decide)]; exact a1
      have c6 : s.1 106 y = if ρ (12 + y) = 0 ∧ lvB F τ ρ y = true then 1 else 0 := by rw [f'.1 106 (by decide) (by decide)]; exact a2
      have p0 : s.1 104 y = nI (ρ y) := by rw [nr.1 y (by omega) (by omega), hr_o (Or.inl (by omega))]
      obtain ⟨u, hu⟩ : ∃ u, u = if ρ (12 + y) = 0 then cwN F τ ρ y else 0 := ⟨_, rfl⟩
      have hu9 : u ≤ 99 := by
        have := cwN_le (F := F) (τ := τ) (ρ := ρ) y
        rw [hu]
        split <;> omega
      obtain ⟨w, hw9⟩ : ∃ w, w = if nI (ρ y) = d then (ρ (6 + y) - u) / 2 else ρ (6 + y) - u := ⟨_, rfl⟩
      have half : (if nI (ρ y) = d then (ag (sI s 104 (6 + y) (nI (ρ (6 + y) - u))) 104 48 (nI (6 + y))).bind fun v36 => (pg (sI s 104 (6 + y) (nI (ρ (6 + y) - u))) 104 48 (nI (6 + y)) (v36 / (2 : Int32))).bind fun M37 => some M37 else some (sI s 104 (6 + y) (nI (ρ (6 + y) - u)))) = some (sI s 104 (6 + y) (nI w)) := by
        by_cases hd : nI (ρ y) = d
        · rw [if_pos hd, ag_n (by omega) (by omega), sb, sI_same, li 2, pk_div (by omega) (by omega) (by omega), pg_n (by omega) (by omega), sb, sI_sI, hw9, if_pos hd]
        · rw [if_neg hd, hw9, if_neg hd]
      have p1 : (sI s 104 (6 + y) (nI (ρ (6 + y) - u))).1 104 y = nI (ρ y) := (sI_ix (by omega)).trans p0
      have c61 : (sI s 104 (6 + y) (nI w)).1 106 y = if ρ (12 + y) = 0 ∧ lvB F τ ρ y = true then 1 else 0 := (congrFun (sI_cell (by decide)) y).trans c6
      right
      show ∃ s', f_X12_hourGoes_L116 (fu + 1) _ _ _ = f_X12_hourGoes_L116 fu _ _ _ ∧ _
      rw [f_X12_hourGoes_L116, V'.2.1, ag_n (by omega) (by omega), sb, V'.2.2.2.2.1, if_neg (nI_ge hy (by omega)), li 6, nI_add, ag_n (by omega) (by omega), sb, g0, ag_n (by omega) (by omega), sb, c5, ← hu, li 999, sub_w (by omega) (by omega) (by omega), sb, pg_n (by omega) (by omega), sb, ag_n (by omega) (by omega), sb, p1, half, sb, ag_n (by omega) (by omega), sb, c61]
      by_cases hl : ρ (12 + y) = 0 ∧ lvB F τ ρ y = true
      · rw [if_pos hl, if_neg ne10, li 12, nI_add, pg_n (by omega) (by omega), sb, pg_n (by omega) (by omega), sb, lt_def, nI_1]
        refine ⟨_, rfl, ((f'.tr (FrN.set (by decide) (by decide))).tr (FrN.set (by decide) (by decide))).tr (FrN.set (by decide) (by decide)), ?_⟩
        have n1 : NR 104 τ (fun k => if k = 6 + y then w else hrY F τ ρ d y k) (sI s 104 (6 + y) (nI w)) := nr.set (fun i hi => if_neg hi) (by omega) (by rw [if_pos rfl])
        have n2 : NR 104 τ (fun k => if k = 12 + y then 1 else if k = 6 + y then w else hrY F τ ρ d y k) (sI (sI s 104 (6 + y) (nI w)) 104 (12 + y) 1) := n1.set (fun i hi => if_neg hi) (by omega) (by rw [if_pos rfl]; rfl)
        refine n2.set (fun i hi => ?_) (by omega) ?_
        · by_cases e12 : i = 12 + y
          · rw [if_pos e12, e12, hr_12 (by omega), if_pos (by omega), nhN, if_pos hl]
          · rw [if_neg e12, if_neg hi, hr_s hi e12]
        · rw [hr_6 (by omega), if_pos (by omega), ngN, if_pos hl]
          rfl
      · rw [if_neg hl, if_pos rfl, lt_def, nI_1]
        refine ⟨_, rfl, f'.tr (FrN.set (by decide) (by decide)), ?_⟩
        refine nr.set (fun i hi => ?_) (by omega) ?_
        · by_cases e12 : i = 12 + y
          · rw [e12, hr_12 (by omega), hr_12 (by omega), if_pos (by omega), if_neg (by omega), nhN, if_neg hl]
          · exact hr_s hi e12
        · rw [hr_6 (by omega), if_pos (by omega), ngN, if_neg hl, ← hu, hw9]) M ⟨FrN.rf, by rw [hr_0]; exact C.2.2.2.1⟩
theorem r_hour {fl : Bool} {sd : Int32} (C : RX v τ ρ F M) (h55 : M.1 67 55 = sd) (h56 : M.1 67 56 = if fl then 0 else 1) : ∃ M', f_X12_hourGoes M = some M' ∧ RX v τ (hrP F τ ρ (if fl then drV τ ρ sd else -1)) F M' ∧ FrN rhS M M' := by
  have hw := C.1
  have wn := C.2.1
  have hC : tC τ ≤ 7 := C.1.1
  have hv : v ≤ 1 := C.2.2.1.1
  obtain ⟨M1, e1, f1, hA⟩ := r_hr1 C
  have C1 := C.fr f1.m (by decide)
  have V1 := C1.2.2.1
  obtain ⟨d, hd⟩ : ∃ d, d = if fl then drV τ ρ sd else -1 := ⟨_, rfl⟩
  have ed : (if M1.1 67 56 = 0 then (ag M1 77 2 (M1.1 67 18)).bind fun v17 => if v17 ≤ 0 then some (-1 : Int32) else (f_X12_isDraught M1).bind fun v20 => if v20 = 0 then some (-1 : Int32) else (ag M1 104 48 (47 : Int32)).bind fun v22 => (ag M1 77 2 (M1.1 67 18)).bind fun v23 => (f_X12_lotOf (((4 : Int32) * v22) + (1 : Int32)) v23 M1).bind fun v25 => some v25 else some (-1 : Int32)) = some d := by
    rw [f1.2.1 56 (by decide), h56, hd]
    cases fl
    · rw [if_neg Bool.false_ne_true, if_neg ne10, if_neg Bool.false_ne_true]
    · rw [if_pos rfl, if_pos rfl, if_pos rfl, V1.2.1, ag_n (by omega) (by omega), sb, V1.2.2.1]
      unfold drV
      by_cases hz : tC τ = 0
      · rw [hz, if_pos (by decide), if_pos rfl]
      · unfold f_X12_isDraught
        rw [if_neg (nI_nle (by omega) (by omega)), if_neg hz, li 47, ag_n (by omega) (by omega), sb, C1.2.2.2.1.1 47 (by omega) (by omega), r_lot (by decide), sb, V1.2.1, ag_n (by omega) (by omega), sb, V1.2.2.2.2.2.2.1, f1.2.1 55 (by decide), h55]
        by_cases h2 : nI (tD τ) ≤ lotV sd (4 * nI (ρ 47)) 100
        · rw [if_pos h2, if_pos h2, sb, if_pos rfl]
        · rw [if_neg h2, if_neg h2, sb, if_neg ne10, sb, sb, r_lot (by
            have := nI_lt' (a := 0) (b := tC τ) (by omega) (by omega)
            exact this), sb, f1.2.1 55 (by decide), h55]
  obtain ⟨M2, e2, f2, n2⟩ := r_hr2 (d := d) C1 hA
  have F2 : FrN rhS M M2 := (f1.sub (by decide)).tr (f2.sub (by decide))
  have k47 : M2.1 104 47 = nI (ρ 47) := by rw [n2.1 47 (by omega) (by omega), hr_o (Or.inr (by omega))]
  have F3 : FrN rhS M (sI M2 104 47 (nI (ρ 47 + 1))) := F2.tr (FrN.set (by decide) (by decide))
  rw [← hd]
  refine ⟨sI M2 104 47 (nI (ρ 47 + 1)), ?_, ⟨hw, wf_hrP hw wn, C.2.2.1.fr F3.m (by decide), n2.set (fun i hi => hrP_o hi) (by omega) (by rw [hrP_47]), C.2.2.2.2.1, C.2.2.2.2.2.of (fun a b c => F3.1 a (by simp; omega) (by omega)) (F3.2.1 18 (by decide))⟩, F3⟩
  unfold f_X12_hourGoes
  rw [e1, sb, ed, sb, e2, sb, li 47, ag_n (by omega) (by omega), sb, k47, nI_1, pg_n (by omega) (by omega), sb]
theorem r_goes {fl : Bool} {sd : Int32} {m : Nat} (C : RX v τ ρ F M) (h55 : M.1 67 55 = sd) (h56 : M.1 67 56 = if fl then 0 else 1) (hm : m ≤ 1000) : ∃ M', f_X12_goes (nI m) M = some M' ∧ RX v τ (gsN F τ ρ sd fl m) F M' ∧ FrN rhS M M' := by
  obtain ⟨M1, e1, C1, f1⟩ := loopQ (fun fu y (s : Mem) => f_X12_goes_L2 fu (nI m) (nI y) s) (fun y s => RX v τ (gsN F τ ρ sd fl y) F s ∧ FrN rhS M s) (fun s => RX v τ (gsN F τ ρ sd fl m) F s ∧ FrN rhS M s) m (by omega) (fun fu s hP => by
      refine ⟨s, ?_, hP⟩
      show f_X12_goes_L2 (fu + 1) _ _ _ = _
      rw [f_X12_goes_L2, if_pos (nI_le (Nat.le_refl _) (by omega))]) (fun fu y s hy hP => by
      obtain ⟨M', e', C', f'⟩ := r_hour (fl := fl) (sd := sd) hP.1 ((hP.2.2.1 55 (by decide)).trans h55) ((hP.2.2.1 56 (by decide)).trans h56)
      right
      refine ⟨M', ?_, C', hP.2.tr f'⟩
      show f_X12_goes_L2 (fu + 1) _ _ _ = f_X12_goes_L2 fu _ _ _
      rw [f_X12_goes_L2, if_neg (nI_ge hy (by omega)), e', sb, lt_def, nI_1]) M ⟨C, FrN.rf⟩
  refine ⟨M1, ?_, C1, f1⟩
  unfold f_X12_goes
  rw [show f_X12_goes_L2 FU (nI m) 0 M = some M1 from e1, sb]
end RHR

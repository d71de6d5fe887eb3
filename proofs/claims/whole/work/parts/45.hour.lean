-- 45.hour: pure: an hour goes by
section HRD
variable (F : Nat → (Nat → Int32) → Int32) (τ : Nat → Nat → Nat) (ρ : Nat → Nat) (d : Int32)
def ngN (y : Nat) : Nat := if ρ (12 + y) = 0 ∧ lvB F τ ρ y = true then 0 else if nI (ρ y) = d then (ρ (6 + y) - (if ρ (12 + y) = 0 then cwN F τ ρ y else 0)) / 2 else ρ (6 + y) - (if ρ (12 + y) = 0 then cwN F τ ρ y else 0)
def nhN (y : Nat) : Nat := if ρ (12 + y) = 0 ∧ lvB F τ ρ y = true then 1 else ρ (12 + y)
def hrY (m k : Nat) : Nat := if 6 ≤ k ∧ k < 12 ∧ k - 6 < m then ngN F τ ρ d (k - 6) else if 12 ≤ k ∧ k < 18 ∧ k - 12 < m then nhN F τ ρ (k - 12) else ρ k
def hrP (k : Nat) : Nat := if k = 47 then ρ 47 + 1 else hrY F τ ρ d (tY τ) k
end HRD
def drV (τ : Nat → Nat → Nat) (ρ : Nat → Nat) (sd : Int32) : Int32 := if tC τ = 0 then -1 else if nI (tD τ) ≤ lotV sd (4 * nI (ρ 47)) 100 then -1 else lotV sd (4 * nI (ρ 47) + 1) (nI (tC τ))
def gsN (F : Nat → (Nat → Int32) → Int32) (τ : Nat → Nat → Nat) (ρ : Nat → Nat) (sd : Int32) (fl : Bool) : Nat → Nat → Nat
  | 0 => ρ
  | m + 1 => hrP F τ (gsN F τ ρ sd fl m) (if fl then drV τ (gsN F τ ρ sd fl m) sd else -1)
section HRF
variable {F : Nat → (Nat → Int32) → Int32} {τ : Nat → Nat → Nat} {ρ : Nat → Nat} {d : Int32} {n t v : Nat} {M M' : Mem}
theorem hr_6 {m y : Nat} (hy : y < 6) : hrY F τ ρ d m (6 + y) = if y < m then ngN F τ ρ d y else ρ (6 + y) := by
  unfold hrY
  by_cases h : y < m
  · rw [if_pos ⟨by omega, by omega, by omega⟩, if_pos h, show 6 + y - 6 = y by omega]
  · rw [if_neg (by omega), if_neg (by omega), if_neg h]
theorem hr_12 {m y : Nat} (hy : y < 6) : hrY F τ ρ d m (12 + y) = if y < m then nhN F τ ρ y else ρ (12 + y) := by
  unfold hrY
  by_cases h : y < m
  · rw [if_neg (by omega), if_pos ⟨by omega, by omega, by omega⟩, if_pos h, show 12 + y - 12 = y by omega]
  · rw [if_neg (by omega), if_neg (by omega), if_neg h]
theorem hr_o {m k : Nat} (h : k < 6 ∨ 18 ≤ k) : hrY F τ ρ d m k = ρ k := by
  unfold hrY
  rw [if_neg (by omega), if_neg (by omega)]
theorem hr_0 : hrY F τ ρ d 0 = ρ := by
  funext k
  unfold hrY
  rw [if_neg (by omega), if_neg (by omega)]
theorem hr_s {m k : Nat} (h6 : k ≠ 6 + m) (h12 : k ≠ 12 + m) : hrY F τ ρ d (m + 1) k = hrY F τ ρ d m k := by
  unfold hrY
  by_cases h1 : 6 ≤ k ∧ k < 12 ∧ k - 6 < m
  · rw [if_pos h1, if_pos ⟨h1.1, h1.2.1, by omega⟩]
  · rw [if_neg h1, if_neg (by omega)]
    by_cases h2 : 12 ≤ k ∧ k < 18 ∧ k - 12 < m
    · rw [if_pos h2, if_pos ⟨h2.1, h2.2.1, by omega⟩]
    · rw [if_neg h2, if_neg (by omega)]
theorem ng_le {y : Nat} (h : ρ (6 + y) ≤ 999) : ngN F τ ρ d y ≤ 999 := by
  unfold ngN
  split
  · omega
  · split <;> omega
theorem wf_hr (hw : wfT τ) (wn : wfN τ ρ) {m : Nat} (hm : m ≤ tY τ) : wfN τ (hrY F τ ρ d m) := by
  have hY : tY τ ≤ 6 := hw.2.2.1
  refine ⟨fun y hy => ?_, fun y hy => ?_, fun w hw => ?_, fun h => ?_⟩
  · rw [hr_o (Or.inl (by omega))]; exact wn.1 y hy
  · obtain ⟨a1, a2, a3, a4, a5⟩ := wn.2.1 y hy
    rw [hr_6 hy, hr_12 hy, hr_o (k := 30 + y) (Or.inr (by omega))]
    by_cases h : y < m
    · rw [if_pos h, if_pos h]
      refine ⟨ng_le a1, ?_, a3, fun e => ?_, fun e => absurd h (by omega)⟩
      · unfold nhN
        split <;> omega
      · unfold nhN at e
        unfold ngN
        by_cases hc : ρ (12 + y) = 0 ∧ lvB F τ ρ y = true
        · rw [if_pos hc]
        · rw [if_neg hc] at e ⊢
          have := a4 e
          split <;> omega
    · rw [if_neg h, if_neg h]
      exact ⟨a1, a2, a3, a4, a5⟩
  · rw [hr_o (Or.inr (by omega))]; exact wn.2.2.1 w hw
  · rw [hr_o (Or.inr (by omega))]; exact wn.2.2.2 h
theorem hrP_o {k : Nat} (h : k ≠ 47) : hrP F τ ρ d k = hrY F τ ρ d (tY τ) k := if_neg h
theorem hrP_47 : hrP F τ ρ d 47 = ρ 47 + 1 := if_pos rfl
theorem wf_hrP (hw : wfT τ) (wn : wfN τ ρ) : wfN τ (hrP F τ ρ d) := by
  have hY : tY τ ≤ 6 := hw.2.2.1
  have h := wf_hr (F := F) (d := d) hw wn (Nat.le_refl (tY τ))
  refine ⟨fun y hy => ?_, fun y hy => ?_, fun w hw => ?_, fun hc => ?_⟩
  · rw [hrP_o (by omega)]; exact h.1 y hy
  · rw [hrP_o (k := 6 + y) (by omega), hrP_o (k := 12 + y) (by omega), hrP_o (k := 30 + y) (by omega)]; exact h.2.1 y hy
  · rw [hrP_o (by omega)]; exact h.2.2.1 w hw
  · rw [hrP_o (by omega)]; exact h.2.2.2 hc
theorem wf_gs (hw : wfT τ) (wn : wfN τ ρ) {sd : Int32} {fl : Bool} : ∀ m, wfN τ (gsN F τ ρ sd fl m)
  | 0 => wn
  | m + 1 => wf_hrP hw (wf_gs hw wn m)
theorem uV_hr {y : Nat} (hy : y < 6) (h w : Int32) : uV τ (hrY F τ ρ d y) y h w = uV τ ρ y h w := by
  funext k
  unfold uV
  rw [hr_o (k := 47) (Or.inr (by omega)), hr_o (k := 24 + y) (Or.inr (by omega)), hr_6 hy, if_neg (Nat.lt_irrefl y), hr_o (k := 18 + y) (Or.inr (by omega))]
theorem cl_hr {y : Nat} (hy : y < 6) : cwN F τ (hrY F τ ρ d y) y = cwN F τ ρ y := by
  unfold cwN
  rw [uV_hr hy]
theorem lv_hr {y : Nat} (hy : y < 6) : lvB F τ (hrY F τ ρ d y) y = lvB F τ ρ y := by
  unfold lvB
  rw [uV_hr hy]
theorem sub_e {a b : Nat} (ha : a < 2 ^ 30) (hb : b < 2 ^ 30) : (if (0 : Int32) < nI a - nI b then nI a - nI b else 0) = nI (a - b) := by
  by_cases h : b ≤ a
  · rw [pk_sub h]
    by_cases h0 : a - b = 0
    · rw [h0]
      rfl
    · rw [if_pos (by
        have := nI_lt' (a := 0) (b := a - b) (by omega) (by omega)
        exact this)]
  · rw [if_neg (Int32.not_lt.mpr (Int32.le_of_lt (pk_sneg hb (by omega)))), show a - b = 0 by omega]
    rfl
theorem sub_w {a b c : Nat} (ha : a ≤ c) (hc : c < 2 ^ 30) (hb : b < 2 ^ 30) : f_X12_within (nI a - nI b) 0 (nI c) = some (nI (a - b)) := by
  by_cases h : b ≤ a
  · rw [pk_sub h, r_within (by omega) (by omega)]
    by_cases h2 : a - b < c
    · rw [if_pos h2]
    · rw [if_neg h2, show a - b = c by omega]
  · unfold f_X12_within
    rw [if_neg (Int32.not_le.mpr (pk_sneg hb (by omega))), show a - b = 0 by omega]
    rfl
theorem NC.upd {ρ1 ρ2 : Nat → Nat} {y : Nat} (h : NC n t τ ρ1 M) (hw : wfT τ) (o : ∀ k, k ≠ 6 + y → k ≠ 12 + y → ρ2 k = ρ1 k) (hy : y < 6) (c0 : ∀ a, a ≠ n → a ≠ n + 2 → M'.1 a = M.1 a) (c1 : ∀ i, i ≠ 3 → M'.1 n i = M.1 n i) (c3 : M'.1 n 3 = nI (mskN (hmB ρ2) 6)) (c2 : ∀ i, i ≠ y → M'.1 (n + 2) i = M.1 (n + 2) i) (c2' : M'.1 (n + 2) y = nI (ρ2 (6 + y))) (r : M'.2.2 n = M.2.2 n) : NC n t τ ρ2 M' := by
  have hY : tY τ ≤ 6 := hw.2.2.1
  obtain ⟨h1, h2, h3, h4, h5, h6, h7, h8, h9⟩ := h
  refine ⟨h1, by rw [r]; exact h2, ?_, fun q => ?_, c3, ?_, fun i hi => ?_, fun i hi => ⟨?_, ?_, ?_⟩, fun w hw => ?_⟩
  · rw [c1 1 (by omega), o 47 (by omega) (by omega)]; exact h3
  · rw [c1 2 (by omega), o 46 (by omega) (by omega)]; exact h4 q
  · have e : mskN (rgB ρ2) 6 = mskN (rgB ρ1) 6 := mskN_cong (fun k hk => by unfold rgB; rw [o _ (by omega) (by omega)])
    rw [c1 4 (by omega), e]; exact h6
  · rw [c0 (n + 1) (by omega) (by omega), o i (by omega) (by omega)]; exact h7 i hi
  · by_cases e : i = y
    · rw [e]; exact c2'
    · rw [c2 i e, o (6 + i) (by omega) (by omega)]; exact (h8 i hi).1
  · rw [c0 (n + 3) (by omega) (by omega), o (18 + i) (by omega) (by omega)]; exact (h8 i hi).2.1
  · rw [c0 (n + 4) (by omega) (by omega), o (24 + i) (by omega) (by omega)]; exact (h8 i hi).2.2
  · rw [c0 (n + 5) (by omega) (by omega), c0 (n + 6) (by omega) (by omega), o (36 + w) (by omega) (by omega), o (41 + w) (by omega) (by omega)]; exact h9 w hw
theorem msk_hr {y : Nat} (hy : y < 6) (h0 : ρ (12 + y) = 0) (hl : lvB F τ ρ y = true) : mskN (hmB (hrY F τ ρ d y)) 6 ||| 2 ^ y = mskN (hmB (hrY F τ ρ d (y + 1))) 6 := by
  rw [msk_set hy]
  refine mskN_cong (fun k hk => ?_)
  by_cases e : k = y
  · subst e
    unfold hmB
    rw [hr_12 (m := k + 1) hy, if_pos (by omega), nhN, if_pos ⟨h0, hl⟩]
    simp
  · have : (k == y) = false := beq_eq_false_iff_ne.mpr e
    unfold hmB
    rw [hr_s (by omega) (by omega), this, Bool.or_false]
theorem msk_hr0 {y : Nat} (hy : y < 6) (h : ¬ (ρ (12 + y) = 0 ∧ lvB F τ ρ y = true)) : mskN (hmB (hrY F τ ρ d (y + 1))) 6 = mskN (hmB (hrY F τ ρ d y)) 6 := by
  refine mskN_cong (fun k hk => ?_)
  unfold hmB
  by_cases e : k = y
  · subst e
    rw [hr_12 (m := k + 1) hy, hr_12 (m := k) hy, if_pos (by omega), if_neg (by omega), nhN, if_neg h]
  · rw [hr_s (by omega) (by omega)]
abbrev hrS (n : Nat) : List Nat := [32, 33, 36, 37, n, n + 2]
theorem CX.fn (C : CX n t τ ρ F M) (f : FrD (hrS n) M M') {ρ' : Nat → Nat} (wn : wfN τ ρ') (nc : NC n t τ ρ' M') : CX n t τ ρ' F M' := by
  have hn := isN_le C.2.2.2.1.1
  have e : ∀ a, a ≤ 20 → M'.1 a = M.1 a := fun a ha => f.1 a (by simp; omega)
  exact ⟨C.1, wn, C.2.2.1.of e, nc, C.2.2.2.2.1, C.2.2.2.2.2.of C.2.2.1.1 e⟩
theorem c_hour (C : CX n t τ ρ F M) : ∃ M', f_X0_passHour n d M = some M' ∧ CX n t τ (hrP F τ ρ d) F M' ∧ FrD (hrS n) M M' := by
  have hw := C.1
  have wn := C.2.1
  have hY : tY τ ≤ 6 := hw.2.2.1
  have hn := isN_le C.2.2.2.1.1
  obtain ⟨M1, e1, C1, f1⟩ := loopQ (fun fu y (s : Mem) => f_X0_passHour_L2 n fu d (nI y) s) (fun y s => CX n t τ (hrY F τ ρ d y) F s ∧ FrD (hrS n) M s) (fun s => CX n t τ (hrY F τ ρ d (tY τ)) F s ∧ FrD (hrS n) M s) (tY τ) (by omega) (fun fu s hP => by
      refine ⟨s, ?_, hP⟩
      show f_X0_passHour_L2 n (fu + 1) _ _ _ = _
      rw [f_X0_passHour_L2, rT_n hP.1.2.2.2.1.2.1 hP.1.2.2.1.1, sb, hP.1.2.2.1.2.2.2.1, if_pos (nI_le (Nat.le_refl _) (by omega))]) (fun fu y s hy hP => by
      obtain ⟨C', f'⟩ := hP
      have hb := (wn.2.1 y (by omega)).2.1
      have hg := (wn.2.1 y (by omega)).1
      have h12 : hrY F τ ρ d y (12 + y) = ρ (12 + y) := by rw [hr_12 (by omega), if_neg (by omega)]
      have h6 : hrY F τ ρ d y (6 + y) = ρ (6 + y) := by rw [hr_6 (by omega), if_neg (by omega)]
      have wn1 : wfN τ (hrY F τ ρ d (y + 1)) := wf_hr hw wn (by omega)
      right
      show ∃ s', f_X0_passHour_L2 n (fu + 1) _ _ _ = f_X0_passHour_L2 n fu _ _ _ ∧ _
      rw [f_X0_passHour_L2, rT_n C'.2.2.2.1.2.1 C'.2.2.1.1, sb, C'.2.2.1.2.2.2.1, if_neg (nI_ge hy (by omega)), c_home C'.2.2.2.1 C'.2.1 (by omega), sb]
      by_cases h0 : ρ (12 + y) = 0
      · obtain ⟨M1, e1, f1⟩ := c_leaves C' isL_35 hy
        have C1 := C'.fl f1
        obtain ⟨M2, e2, f2⟩ := c_cools C1 isL_35 hy
        have C2 := C1.fl f2
        rw [lv_hr (by omega)] at e1
        rw [cl_hr (by omega)] at e2
        have c9 := cwN_le (F := F) (τ := τ) (ρ := ρ) y
        have g1 : M1.1 (n + 2) y = nI (ρ (6 + y)) := by rw [(C1.2.2.2.1.2.2.2.2.2.2.2.1 y (by omega)).1, h6]
        have a2 : M2.1 (n + 1) y = nI (ρ y) := by rw [C2.2.2.2.1.2.2.2.2.2.2.1 y hy, hr_o (Or.inl (by omega))]
        have k2 : M2.1 n 3 = nI (mskN (hmB (hrY F τ ρ d y)) 6) := C2.2.2.2.1.2.2.2.2.1
        have F2 : FrD (hrS n) M M2 := f'.tr ((f1.tr f2).sub (by simp))
        rw [hm_0 (h12.trans h0), if_neg Bool.false_ne_true, if_pos rfl, e1, sb, ag_n (by omega) (by omega), sb, g1, e2, sb, sub_e (by omega) (by omega), lt_def, ag_n (by omega) (by omega), sb, a2]
        have half : (if nI (ρ y) = d then lt (nI (ρ (6 + y) - cwN F τ ρ y) / 2) fun v15 => some v15 else some (nI (ρ (6 + y) - cwN F τ ρ y))) = some (nI (if nI (ρ y) = d then (ρ (6 + y) - cwN F τ ρ y) / 2 else ρ (6 + y) - cwN F τ ρ y)) := by
          by_cases hd : nI (ρ y) = d
          · rw [if_pos hd, if_pos hd, lt_def, li 2, pk_div (by omega) (by omega) (by omega)]
          · rw [if_neg hd, if_neg hd]
        rw [half, sb, lt_def]
        cases hl : lvB F τ ρ y
        · have en : ngN F τ ρ d y = if nI (ρ y) = d then (ρ (6 + y) - cwN F τ ρ y) / 2 else ρ (6 + y) - cwN F τ ρ y := by
            unfold ngN
            rw [if_neg (by rw [hl]; simp), if_pos h0]
          rw [if_neg Bool.false_ne_true, if_pos rfl, pg_n (by omega) (by omega), sb, if_pos rfl, lt_def, nI_1, ← en]
          have F3 : FrD (hrS n) M (sI M2 (n + 2) y (nI (ngN F τ ρ d y))) := F2.tr (FrD.set (by simp))
          have nc : NC n t τ (hrY F τ ρ d (y + 1)) (sI M2 (n + 2) y (nI (ngN F τ ρ d y))) := C2.2.2.2.1.upd hw (fun k a b => hr_s a b) (by omega) (fun a _ b => sI_cell b) (fun i _ => congrFun (sI_cell (by omega)) i) (by
            rw [msk_hr0 (by omega) (by rw [hl]; simp)]
            exact (congrFun (sI_cell (by omega)) 3).trans k2) (fun i hi => sI_ix hi) (by rw [sI_same, hr_6 (by omega), if_pos (by omega)]) rfl
          exact ⟨_, rfl, C.fn F3 wn1 nc, F3⟩
        · have en : ngN F τ ρ d y = 0 := by
            unfold ngN
            rw [if_pos ⟨h0, hl⟩]
          have k3 : (sI M2 (n + 2) y 0).1 n 3 = nI (mskN (hmB (hrY F τ ρ d y)) 6) := (congrFun (sI_cell (by omega)) 3).trans k2
          rw [if_pos rfl, if_neg ne10, pg_n (by omega) (by omega), sb, if_neg ne10, lt_def, lt_def, nI_1, k3, sh1 (by omega), or_n, msk_hr (by omega) h0 hl]
          have F3 : FrD (hrS n) M (sI (sI M2 (n + 2) y 0) n 3 (nI (mskN (hmB (hrY F τ ρ d (y + 1))) 6))) := (F2.tr (FrD.set (by simp))).tr (FrD.set (by simp))
          have nc : NC n t τ (hrY F τ ρ d (y + 1)) (sI (sI M2 (n + 2) y 0) n 3 (nI (mskN (hmB (hrY F τ ρ d (y + 1))) 6))) := C2.2.2.2.1.upd hw (fun k a b => hr_s a b) (by omega) (fun a ha b => (sI_cell ha).trans (sI_cell b)) (fun i hi => (sI_ix hi).trans (congrFun (sI_cell (by omega)) i)) sI_same (fun i hi => (congrFun (sI_cell (by omega)) i).trans (sI_ix hi)) (by
            rw [hr_6 (by omega), if_pos (by omega), en]
            exact (congrFun (sI_cell (by omega)) y).trans sI_same) rfl
          exact ⟨_, rfl, C.fn F3 wn1 nc, F3⟩
      · have h1 : ρ (12 + y) = 1 := by omega
        have hz := (wn.2.1 y (by omega)).2.2.2.1 h1
        rw [hm_1 (h12.trans h1), if_pos rfl, if_neg ne10, lt_def, nI_1]
        have en : hrY F τ ρ d (y + 1) = hrY F τ ρ d y := by
          funext k
          by_cases k6 : k = 6 + y
          · subst k6
            rw [h6, hr_6 (by omega), if_pos (by omega), ngN, if_neg (by omega), hz]
            split <;> simp
          · by_cases k12 : k = 12 + y
            · subst k12
              rw [h12, hr_12 (by omega), if_pos (by omega), nhN, if_neg (by omega)]
            · exact hr_s k6 k12
        exact ⟨s, rfl, by rw [en]; exact C', f'⟩) M ⟨by rw [hr_0]; exact C, FrD.rf⟩
  have k1 : M1.1 n 1 = nI (ρ 47) := by rw [C1.2.2.2.1.2.2.1, hr_o (Or.inr (by omega))]
  have F3 : FrD (hrS n) M (sI M1 n 1 (nI (ρ 47 + 1))) := f1.tr (FrD.set (by simp))
  have g : ∀ i, i ≠ 1 → (sI M1 n 1 (nI (ρ 47 + 1))).1 n i = M1.1 n i := fun i hi => sI_ix hi
  have g2 : ∀ a, a ≠ n → (sI M1 n 1 (nI (ρ 47 + 1))).1 a = M1.1 a := fun a ha => sI_cell ha
  have nc : NC n t τ (hrP F τ ρ d) (sI M1 n 1 (nI (ρ 47 + 1))) := by
    obtain ⟨h1, h2, h3, h4, h5, h6, h7, h8, h9⟩ := C1.2.2.2.1
    refine ⟨h1, h2, ?_, fun q => ?_, ?_, ?_, fun i hi => ?_, fun i hi => ?_, fun w hw => ?_⟩
    · rw [sI_same, hrP_47]
    · rw [g 2 (by omega), hrP_o (by omega)]; exact h4 q
    · have e : mskN (hmB (hrP F τ ρ d)) 6 = mskN (hmB (hrY F τ ρ d (tY τ))) 6 := mskN_cong (fun k hk => by unfold hmB; rw [hrP_o (by omega)])
      rw [g 3 (by omega), e]; exact h5
    · have e : mskN (rgB (hrP F τ ρ d)) 6 = mskN (rgB (hrY F τ ρ d (tY τ))) 6 := mskN_cong (fun k hk => by unfold rgB; rw [hrP_o (by omega)])
      rw [g 4 (by omega), e]; exact h6
    · rw [g2 (n + 1) (by omega), hrP_o (by omega)]; exact h7 i hi
    · rw [g2 (n + 2) (by omega), g2 (n + 3) (by omega), g2 (n + 4) (by omega), hrP_o (k := 6 + i) (by omega), hrP_o (k := 18 + i) (by omega), hrP_o (k := 24 + i) (by omega)]; exact h8 i hi
    · rw [g2 (n + 5) (by omega), g2 (n + 6) (by omega), hrP_o (k := 36 + w) (by omega), hrP_o (k := 41 + w) (by omega)]; exact h9 w hw
  refine ⟨sI M1 n 1 (nI (ρ 47 + 1)), ?_, C.fn F3 (wf_hrP hw wn) nc, F3⟩
  unfold f_X0_passHour
  rw [show f_X0_passHour_L2 n FU d 0 M = some M1 from e1, sb, k1, nI_1, lt_def]
theorem c_chill {sd : Int32} (C : CX n t τ ρ F M) : f_X0_chilledCorner n sd M = some (drV τ ρ sd) := by
  have hC : tC τ ≤ 7 := C.1.1
  have hT := C.2.2.1
  unfold f_X0_chilledCorner f_X0_isDraughty drV
  rw [rT_n C.2.2.2.1.2.1 hT.1, sb, hT.2.1]
  by_cases h : tC τ = 0
  · rw [h, if_pos nI_0, if_pos rfl]
  · rw [if_neg (nI_ne0 (by omega) (by omega)), if_neg h, sb, C.2.2.2.1.2.2.1, c_lot (by decide), sb, hT.2.2.2.2.2.1]
    by_cases h2 : nI (tD τ) ≤ lotV sd (4 * nI (ρ 47)) 100
    · rw [if_pos h2, if_pos h2, sb, if_pos rfl]
    · rw [if_neg h2, if_neg h2, sb, if_neg ne10, sb, hT.2.1, c_lot (by
        have := nI_lt' (a := 0) (b := tC τ) (by omega) (by omega)
        exact this), sb]
theorem c_pass {sd : Int32} {fl : Bool} {m : Nat} (C : CX n t τ ρ F M) (hm : m ≤ 1000) : ∃ M', f_X0_passHours n (nI m) sd (if fl then 1 else 0) M = some M' ∧ CX n t τ (gsN F τ ρ sd fl m) F M' ∧ FrD (hrS n) M M' := by
  obtain ⟨M1, e1, C1, f1⟩ := loopQ (fun fu y (s : Mem) => f_X0_passHours_L3 n fu (nI m) sd (if fl then 1 else 0) (nI y) s) (fun y s => CX n t τ (gsN F τ ρ sd fl y) F s ∧ FrD (hrS n) M s) (fun s => CX n t τ (gsN F τ ρ sd fl m) F s ∧ FrD (hrS n) M s) m (by omega) (fun fu s hP => by
      refine ⟨s, ?_, hP⟩
      show f_X0_passHours_L3 n (fu + 1) _ _ _ _ _ = _
      rw [f_X0_passHours_L3, if_pos (nI_le (Nat.le_refl _) (by omega))]) (fun fu y s hy hP => by
      obtain ⟨M', e', C', f'⟩ := c_hour (d := if fl then drV τ (gsN F τ ρ sd fl y) sd else -1) hP.1
      right
      refine ⟨M', ?_, C', hP.2.tr f'⟩
      show f_X0_passHours_L3 n (fu + 1) _ _ _ _ _ = f_X0_passHours_L3 n fu _ _ _ _ _
      rw [f_X0_passHours_L3, if_neg (nI_ge hy (by omega))]
      cases fl
      · rw [if_neg Bool.false_ne_true, if_pos rfl, sb]
        rw [if_neg Bool.false_ne_true] at e'
        rw [e', sb, lt_def, nI_1]
      · rw [if_pos rfl, if_neg ne10, c_chill hP.1, sb, sb]
        rw [if_pos rfl] at e'
        rw [e', sb, lt_def, nI_1]) M ⟨C, FrD.rf⟩
  refine ⟨M1, ?_, C1, f1⟩
  unfold f_X0_passHours
  rw [show f_X0_passHours_L3 n FU (nI m) sd (if fl then 1 else 0) 0 M = some M1 from e1, sb]
end HRF

-- 29.rec: pure: a thing done: what both keep of the night before it
theorem c_begin {M : Mem} {k x : Nat} (hk : k ≤ 40) (hx : x < 40) (q0 : M.1 57 0 = nI k) (q4 : M.1 57 4 = nI x) : f_X11_beginThing M = some (sI (sI (sI (wrM M 58 (38 * x) (nB M) 38) 57 4 (nI ((x + 1) % 40))) 57 0 (nI (if k + 1 < 40 then k + 1 else 40))) 48 2 1) := by
  unfold f_X11_beginThing f_X4_note
  have e4 : (wrM M 58 (38 * x) (nB M) 38).1 57 4 = nI x := (congrFun (wr_cell (by decide)) 4).trans q4
  have e0 : (sI (wrM M 58 (38 * x) (nB M) 38) 57 4 (nI ((x + 1) % 40))).1 57 0 = nI k := (sI_ix (by decide)).trans ((congrFun (wr_cell (by decide)) 0).trans q0)
  have e5 : nI (x + 1) - nI (x + 1) / nI 40 * nI 40 = nI ((x + 1) % 40) := by
    rw [pk_div (by omega) (by omega) (by omega), pk_mul, pk_sub (by omega), show x + 1 - (x + 1) / 40 * 40 = (x + 1) % 40 by omega]
  have e6 : (if nI (k + 1) < nI 40 then nI (k + 1) else nI 40) = nI (if k + 1 < 40 then k + 1 else 40) := by
    by_cases h : k + 1 < 40
    · rw [if_pos h, if_pos (nI_lt' h (by omega))]
    · rw [if_neg h, if_neg (nI_nlt' (nI_le (by omega) (by omega)))]
  rw [q4, c_write (by omega) (by omega) (by omega), sb, e4, li 1, nI_add, li 40, e5, lt_def, e0, nI_add, e6, lt_def, lt_def, sb, lt_def]
theorem rk_L {M : Mem} : f_X12_keepsRow M = some (cpM M 104 103 0 0 48) := by
  have h := loop0 (fun fu y => f_X12_keepsRow_L2 fu (nI y) (cpM M 104 103 0 0 y)) (some (cpM M 104 103 0 0 48)) 48 (by omega) (fun fu => ?_) (fun fu y hy => ?_)
  · rw [cpM_0] at h
    unfold f_X12_keepsRow
    exact (congrArg (fun z => Option.bind z _) h).trans rfl
  · show f_X12_keepsRow_L2 (fu + 1) _ _ = _
    rw [f_X12_keepsRow_L2, li 48, if_pos (nI_le (Nat.le_refl _) (by omega))]
  · show f_X12_keepsRow_L2 (fu + 1) _ _ = f_X12_keepsRow_L2 fu _ _
    rw [f_X12_keepsRow_L2, li 48, if_neg (nI_ge hy (by omega)), ag_n (by omega) (by omega), sb, pg_n (by omega) (by omega), sb, lt_def, nI_1, cp_cell (by decide)]
    have := cpM_s (M := M) (a := 104) (b := 103) (sp := 0) (dp := 0) (y := y)
    rw [Nat.zero_add] at this
    rw [this]
theorem rs_L {M : Mem} : f_X12_records_L11 FU 0 M = some (cpM M 108 108 48 0 1872) := by
  have h := loop0 (fun fu y => f_X12_records_L11 fu (nI y) (cpM M 108 108 48 0 y)) (some (cpM M 108 108 48 0 1872)) 1872 (by omega) (fun fu => ?_) (fun fu y hy => ?_)
  · rw [cpM_0] at h
    exact h
  · show f_X12_records_L11 (fu + 1) _ _ = _
    rw [f_X12_records_L11, li 1872, if_pos (nI_le (Nat.le_refl _) (by omega))]
  · show f_X12_records_L11 (fu + 1) _ _ = f_X12_records_L11 fu _ _
    rw [f_X12_records_L11, li 1872, if_neg (nI_ge hy (by omega)), li 48, nI_add, ag_n (by omega) (by omega), sb, pg_n (by omega) (by omega), sb, lt_def, nI_1, cp1, if_neg (by omega), Nat.add_comm y 48]
    have := cpM_s (M := M) (a := 108) (b := 108) (sp := 48) (dp := 0) (y := y)
    rw [Nat.zero_add] at this
    rw [this]
theorem rp_L {M : Mem} {q : Nat} (hq : q < 40) (h60 : M.1 67 60 = nI q) : f_X12_records_L51 FU 0 M = some (cpM M 103 108 0 (48 * q) 48) := by
  have h := loop0 (fun fu y => f_X12_records_L51 fu (nI y) (cpM M 103 108 0 (48 * q) y)) (some (cpM M 103 108 0 (48 * q) 48)) 48 (by omega) (fun fu => ?_) (fun fu y hy => ?_)
  · rw [cpM_0] at h
    exact h
  · show f_X12_records_L51 (fu + 1) _ _ = _
    rw [f_X12_records_L51, li 48, if_pos (nI_le (Nat.le_refl _) (by omega))]
  · show f_X12_records_L51 (fu + 1) _ _ = f_X12_records_L51 fu _ _
    have e : (cpM M 103 108 0 (48 * q) y).1 67 60 = nI q := by rw [cp_cell (by decide)]; exact h60
    rw [f_X12_records_L51, li 48, if_neg (nI_ge hy (by omega)), ag_n (by omega) (by omega), sb, e, pk_mul, nI_add, pg_n (by omega) (by omega), sb, lt_def, nI_1, cp_cell (by decide)]
    have := cpM_s (M := M) (a := 103) (b := 108) (sp := 0) (dp := 48 * q) (y := y)
    rw [Nat.zero_add] at this
    rw [this]
/-- the reference's records: d is 1 where the oldest row goes -/
theorem r_records {M : Mem} {k : Nat} (hk : k ≤ 40) (h60 : M.1 67 60 = nI k) : ∃ M2, f_X12_records M = some M2 ∧ KpX [103, 108] [60] M M2 ∧ M2.1 67 60 = nI (if k + 1 < 40 then k + 1 else 40) ∧ (∀ i, i < 48 → M2.1 103 i = M.1 104 i) ∧ (∀ i, i < 48 → M2.1 108 (48 * (if k + 1 < 40 then k else 39) + i) = M.1 103 i) ∧ ∀ j i, j < (if k + 1 < 40 then k else 39) → i < 48 → M2.1 108 (48 * j + i) = M.1 108 (48 * (j + (if k = 40 then 1 else 0)) + i) := by
  obtain ⟨X, q, eX, hq, X60, kX, XC, XH⟩ : ∃ (X : Mem) (q : Nat), (if M.1 67 60 = 40 then (f_X12_records_L11 FU 0 M).bind fun t7 => lt (sI t7 67 60 ((t7.1 67 60) - 1)) fun M9 => some M9 else some M) = some X ∧ q = (if k + 1 < 40 then k else 39) ∧ X.1 67 60 = nI q ∧ KpX [103, 108] [60] M X ∧ (∀ c, c ≠ 108 → c ≠ 67 → X.1 c = M.1 c) ∧ ∀ j i, j < q → i < 48 → X.1 108 (48 * j + i) = M.1 108 (48 * (j + (if k = 40 then 1 else 0)) + i) := by
    by_cases h : k = 40
    · subst h
      have e : (cpM M 108 108 48 0 1872).1 67 60 = nI 40 := by rw [cp_cell (by decide)]; exact h60
      refine ⟨sI (cpM M 108 108 48 0 1872) 67 60 (nI 39), 39, ?_, rfl, sI_same, KpX.tr (KpX.cpy (by decide) (by decide)) (KpX.fld (by decide)), fun c h1 h2 => (sI_cell h2).trans (cp_cell h1), fun j i hj hi => ?_⟩
      · rw [h60, if_pos (li 40).symm, rs_L, sb, e, li 1, pk_sub (by omega), lt_def]
      · rw [sI_cell (by decide), cp1, if_pos ⟨rfl, by omega, by omega⟩, if_pos rfl, show 48 + (48 * j + i - 0) = 48 * (j + 1) + i by omega]
    · refine ⟨M, k, ?_, ?_, h60, Kp.rf.x, fun _ _ _ => rfl, fun j i hj hi => by rw [if_neg h]; rfl⟩
      · rw [h60, li 40, if_neg (fun z => h (nI_inj (by omega) (by omega) z))]
      · by_cases h2 : k + 1 < 40
        · rw [if_pos h2]
        · rw [if_neg h2]; omega
  have hq40 : q < 40 := by
    rw [hq]
    split <;> omega
  have eq1 : q + 1 = if k + 1 < 40 then k + 1 else 40 := by
    rw [hq]
    split <;> rfl
  have e1 : (cpM X 103 108 0 (48 * q) 48).1 67 60 = nI q := by rw [cp_cell (by decide)]; exact X60
  refine ⟨cpM (sI (cpM X 103 108 0 (48 * q) 48) 67 60 (nI (q + 1))) 104 103 0 0 48, ?_, ?_, ?_, fun i hi => ?_, fun i hi => ?_, fun j i hj hi => ?_⟩
  · unfold f_X12_records
    rw [eX, sb, rp_L hq40 X60, sb, e1, li 1, nI_add, lt_def, rk_L, sb]
  · exact KpX.tr (KpX.tr (KpX.tr kX (KpX.cpy (by decide) (by decide))) (KpX.fld (by decide))) (KpX.cpy (by decide) (by decide))
  · rw [cp_cell (by decide), sI_same, eq1]
  · rw [cp1, if_pos ⟨rfl, by omega, by omega⟩, sI_cell (by decide), cp_cell (by decide), XC 104 (by decide) (by decide), show 0 + (i - 0) = i by omega]
  · rw [← hq, cp_cell (by decide), sI_cell (by decide), cp1, if_pos ⟨rfl, by omega, by omega⟩, XC 103 (by decide) (by decide), show 0 + (48 * q + i - 48 * q) = i by omega]
  · rw [← hq] at hj
    rw [cp_cell (by decide), sI_cell (by decide), cp1, if_neg (by omega)]
    exact XH j i hj hi

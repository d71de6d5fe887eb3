-- 49.night: pure: a night tried out: glowIn, then, year, darkens
abbrev cyS : List Nat := [38, 39, 40, 41, 42, 43, 44]
section CPY
variable {F : Nat → (Nat → Int32) → Int32} {τ : Nat → Nat → Nat} {ρ : Nat → Nat} {t v : Nat} {M : Mem}
theorem sR_1 {a k : Nat} {x : Option Nat} : (sR M a k x).1 = M.1 := rfl
theorem c_copy (C : CX 60 t τ ρ F M) : ∃ M', f_X3_copyFrom 38 60 M = some M' ∧ CX 38 t τ ρ F M' ∧ FrC cyS M M' := by
  have hY : tY τ ≤ 6 := C.1.2.2.1
  obtain ⟨b1, b2, b3, b4, b5, b6, b7, b8, b9⟩ := C.2.2.2.1
  let A0 : Mem := sR M 38 0 (some t)
  let A1 : Mem := sI A0 38 1 (M.1 60 1)
  let A2 : Mem := sI A1 38 2 (M.1 60 2)
  let A3 : Mem := sI A2 38 3 (M.1 60 3)
  let A4 : Mem := sI A3 38 4 (M.1 60 4)
  let B1 : Mem := cpM A4 61 39 0 0 6
  let B2 : Mem := cpM B1 62 40 0 0 6
  let B3 : Mem := cpM B2 63 41 0 0 6
  let B4 : Mem := cpM B3 64 42 0 0 6
  let B5 : Mem := cpM B4 65 43 0 0 5
  let B6 : Mem := cpM B5 66 44 0 0 5
  have o : ∀ a, a ∉ cyS → B6.1 a = M.1 a := fun a ha => by
    simp at ha
    exact (cp_cell (by omega)).trans ((cp_cell (by omega)).trans ((cp_cell (by omega)).trans ((cp_cell (by omega)).trans ((cp_cell (by omega)).trans ((cp_cell (by omega)).trans ((sI_cell (by omega)).trans ((sI_cell (by omega)).trans ((sI_cell (by omega)).trans (sI_cell (by omega))))))))))
  have f : FrC cyS M B6 := ⟨o, rfl, fun a ha => by
    show (if a = 38 then _ else M.2.2 a) = _
    rw [if_neg ha]⟩
  have k38 : B6.1 38 = A4.1 38 := (cp_cell (by omega)).trans ((cp_cell (by omega)).trans ((cp_cell (by omega)).trans ((cp_cell (by omega)).trans ((cp_cell (by omega)).trans (cp_cell (by omega))))))
  have e : ∀ a, a ≤ 20 → B6.1 a = M.1 a := fun a ha => o a (by simp; omega)
  have s60 : ∀ a, 60 ≤ a → A4.1 a = M.1 a := fun a ha => (sI_cell (by omega)).trans ((sI_cell (by omega)).trans ((sI_cell (by omega)).trans (sI_cell (by omega))))
  have nc : NC 38 t τ ρ B6 := by
    refine ⟨isN_38, ?_, ?_, fun q => ?_, ?_, ?_, fun y hy => ?_, fun y hy => ⟨?_, ?_, ?_⟩, fun w hw => ⟨?_, ?_⟩⟩
    · show (if (38 : Nat) = 38 then (fun j => if j = 0 then some t else M.2.2 38 j) else M.2.2 38) 0 = some t
      rw [if_pos rfl]
      exact if_pos rfl
    · rw [k38]; exact (sI_ix (by omega)).trans ((sI_ix (by omega)).trans ((sI_ix (by omega)).trans (sI_same.trans b3)))
    · rw [k38]; exact (sI_ix (by omega)).trans ((sI_ix (by omega)).trans (sI_same.trans (b4 q)))
    · rw [k38]; exact (sI_ix (by omega)).trans (sI_same.trans b5)
    · rw [k38]; exact sI_same.trans b6
    · rw [show B6.1 (38 + 1) = B1.1 39 from (cp_cell (by omega)).trans ((cp_cell (by omega)).trans ((cp_cell (by omega)).trans ((cp_cell (by omega)).trans (cp_cell (by omega))))), cp1, if_pos ⟨rfl, by omega, by omega⟩, s60 61 (by omega), show 0 + (y - 0) = y by omega]
      exact b7 y hy
    · rw [show B6.1 (38 + 2) = B2.1 40 from (cp_cell (by omega)).trans ((cp_cell (by omega)).trans ((cp_cell (by omega)).trans (cp_cell (by omega)))), cp1, if_pos ⟨rfl, by omega, by omega⟩, show B1.1 62 = A4.1 62 from cp_cell (by omega), s60 62 (by omega), show 0 + (y - 0) = y by omega]
      exact (b8 y hy).1
    · rw [show B6.1 (38 + 3) = B3.1 41 from (cp_cell (by omega)).trans ((cp_cell (by omega)).trans (cp_cell (by omega))), cp1, if_pos ⟨rfl, by omega, by omega⟩, show B2.1 63 = A4.1 63 from (cp_cell (by omega)).trans (cp_cell (by omega)), s60 63 (by omega), show 0 + (y - 0) = y by omega]
      exact (b8 y hy).2.1
    · rw [show B6.1 (38 + 4) = B4.1 42 from (cp_cell (by omega)).trans (cp_cell (by omega)), cp1, if_pos ⟨rfl, by omega, by omega⟩, show B3.1 64 = A4.1 64 from (cp_cell (by omega)).trans ((cp_cell (by omega)).trans (cp_cell (by omega))), s60 64 (by omega), show 0 + (y - 0) = y by omega]
      exact (b8 y hy).2.2
    · rw [show B6.1 (38 + 5) = B5.1 43 from cp_cell (by omega), cp1, if_pos ⟨rfl, by omega, by omega⟩, show B4.1 65 = A4.1 65 from (cp_cell (by omega)).trans ((cp_cell (by omega)).trans ((cp_cell (by omega)).trans (cp_cell (by omega)))), s60 65 (by omega), show 0 + (w - 0) = w by omega]
      exact (b9 w hw).1
    · rw [cp1, if_pos ⟨rfl, by omega, by omega⟩, show B5.1 66 = A4.1 66 from (cp_cell (by omega)).trans ((cp_cell (by omega)).trans ((cp_cell (by omega)).trans ((cp_cell (by omega)).trans (cp_cell (by omega))))), s60 66 (by omega), show 0 + (w - 0) = w by omega]
      exact (b9 w hw).2
  refine ⟨B6, ?_, ⟨C.1, C.2.1, C.2.2.1.of e, nc, C.2.2.2.2.1, C.2.2.2.2.2.of C.2.2.1.1 e⟩, f⟩
  unfold f_X3_copyFrom
  have c1 : A0.1 60 1 = M.1 60 1 := rfl
  have c2 : A1.1 60 2 = M.1 60 2 := congrFun (sI_cell (by omega)) 2
  have c3 : A2.1 60 3 = M.1 60 3 := congrFun ((sI_cell (by omega)).trans (sI_cell (by omega))) 3
  have c4 : A3.1 60 4 = M.1 60 4 := congrFun ((sI_cell (by omega)).trans ((sI_cell (by omega)).trans (sI_cell (by omega)))) 4
  rw [rT_n b2 C.2.2.1.1, sb, lt_def, lt_def]
  show lt (sI A1 38 2 (A1.1 60 2)) _ = _
  rw [c2, lt_def]
  show lt (sI A2 38 3 (A2.1 60 3)) _ = _
  rw [c3, lt_def]
  show lt (sI A3 38 4 (A3.1 60 4)) _ = _
  rw [c4, lt_def, li 6, li 5, show (0 : Int32) = nI 0 from rfl, cp_n (by omega) (by omega) (by omega) (by omega), sb, cp_n (by omega) (by omega) (by omega) (by omega), sb, cp_n (by omega) (by omega) (by omega) (by omega), sb, cp_n (by omega) (by omega) (by omega) (by omega), sb, cp_n (by omega) (by omega) (by omega) (by omega), sb, cp_n (by omega) (by omega) (by omega) (by omega), sb]
theorem c_night {sd : Int32} {m : Nat} (R : RelP t v τ ρ F M) (hm : m ≤ 1000) : ∃ M', f_X0_nightIn 60 (nI m) sd M = some M' ∧ CX 38 t τ (gsN F τ ρ sd true m) F M' ∧ RelP t v τ ρ F M' := by
  obtain ⟨M1, e1, C1, f1⟩ := c_copy R.cx
  obtain ⟨M2, e2, C2, f2⟩ := c_pass (sd := sd) (fl := true) (m := m) C1 hm
  refine ⟨M2, ?_, C2, (R.kp (f1.kp (by decide))).kp (f2.c.kp (by decide))⟩
  unfold f_X0_nightIn
  rw [e1, sb, show f_X0_passHours 38 (nI m) sd 1 M1 = some M2 from e2, sb]
theorem rhK {M' : Mem} (R : RelP t v τ ρ F M) (f : FrM rhS M M') : RelP t v τ ρ F M' := R.fm f (by decide)
end CPY
theorem s_glowIn {M : Mem} (R : Rel M) (x1 x2 : Int32) : OkB (f_X11_glowIn x1 x2 M) (f_X12_glowIn x1 x2) := by
  have R0 := R
  obtain ⟨t, v, τ, ρ, F, R⟩ := R
  have hw := R.1
  have hT : TC t τ M := R.2.2.1
  have hV : TR v τ M := R.2.2.2.1
  have h9 : M.2.2 0 9 = some t := R.2.2.2.2.2.2.1.1
  have hY : tY τ ≤ 6 := hw.2.2.1
  rcases ar_in x1 (n := tY τ) (by omega) with h | ⟨j, hj, rfl⟩
  · refine ⟨-1, M, M, ?_, ?_, R0⟩
    · unfold f_X11_glowIn
      rw [c_isYoung_o hT h9 h, sb, if_pos rfl]
    · unfold f_X12_glowIn
      rw [r_isYoung_o hw hV h, sb, if_pos rfl]
  rcases hrs x2 with h | ⟨n, hn, rfl, h⟩
  · refine ⟨-1, M, M, ?_, ?_, R0⟩
    · unfold f_X11_glowIn
      rw [c_isYoung_i hw hT h9 hj, sb, if_neg ne10, hours_in, h, sb, if_pos rfl]
    · unfold f_X12_glowIn
      rw [r_isYoung_i hw hV hj, sb, if_neg ne10, h, sb, if_pos rfl]
  obtain ⟨M1, e1, C1, R1⟩ := c_night (sd := nI (tE τ)) (m := n) R (by omega)
  obtain ⟨M5, e5, R5, X5, f5, h55, h56⟩ := R1.rx
  obtain ⟨M6, e6, X6, f6⟩ := r_goes (fl := true) (m := n) X5 h55 h56 (by omega)
  refine ⟨nI (gsN F τ ρ (nI (tE τ)) true n (6 + j)), M1, M6, ?_, ?_, (rhK R5 f6.m).rel⟩
  · unfold f_X11_glowIn
    rw [c_isYoung_i hw hT h9 hj, sb, if_neg ne10, hours_in, h, sb, if_neg ne10, rT_n h9 hT.1, sb, hT.2.2.2.2.2.2.1, e1, sb, ag_n (by omega) (by omega), sb, (C1.2.2.2.1.2.2.2.2.2.2.2.1 j (by omega)).1]
  · unfold f_X12_glowIn
    rw [r_isYoung_i hw R1.tr hj, sb, if_neg ne10, h, sb, if_neg ne10, e5, sb, e6, sb, li 6, nI_add, ag_n (by omega) (by omega), sb, X6.2.2.2.1.1 (6 + j) (by omega) (by omega)]
theorem s_then {M : Mem} (R : Rel M) (x1 x2 : Int32) : OkB (f_X11_then x1 x2 M) (f_X12_then x1 x2) := by
  have R0 := R
  obtain ⟨t, v, τ, ρ, F, R⟩ := R
  have hw := R.1
  have hT : TC t τ M := R.2.2.1
  have h9 : M.2.2 0 9 = some t := R.2.2.2.2.2.2.1.1
  have hY : tY τ ≤ 6 := hw.2.2.1
  rcases hrs x1 with h | ⟨n, hn, rfl, h⟩
  · refine ⟨-1, M, M, ?_, ?_, R0⟩
    · unfold f_X11_then
      rw [hours_in, h, sb, if_pos rfl]
    · unfold f_X12_then
      rw [h, sb, if_pos rfl]
  rcases eith x2 with ⟨h01, i1, i2⟩ | ⟨n0, n1, i1, i2⟩
  · obtain ⟨M1, e1, C1, R1⟩ := c_night (sd := nI (tE τ)) (m := n) R (by omega)
    obtain ⟨M5, e5, R5, X5, f5, h55, h56⟩ := R1.rx
    obtain ⟨M6, e6, X6, f6⟩ := r_goes (fl := true) (m := n) X5 h55 h56 (by omega)
    have R6 := rhK R5 f6.m
    rcases h01 with rfl | rfl
    · obtain ⟨M7, e7, f7⟩ := r_lits hw X6.2.2.1 X6.2.2.2.1 X6.2.1
      refine ⟨nI (litN τ (gsN F τ ρ (nI (tE τ)) true n)), M1, M7, ?_, ?_, (R6.fm f7 (by decide)).rel⟩
      · unfold f_X11_then
        rw [hours_in, h, sb, if_neg ne10, i2, sb, if_neg ne10, rT_n h9 hT.1, sb, hT.2.2.2.2.2.2.1, e1, sb, if_pos rfl, c_lits hw C1.2.2.1 C1.2.2.2.1 C1.2.1, sb]
      · unfold f_X12_then
        rw [h, sb, if_neg ne10, i1, sb, if_neg ne10, e5, sb, e6, sb, if_pos rfl, e7, sb]
    · refine ⟨nI (mskN (hmB (gsN F τ ρ (nI (tE τ)) true n)) 6), M1, M6, ?_, ?_, R6.rel⟩
      · unfold f_X11_then
        rw [hours_in, h, sb, if_neg ne10, i2, sb, if_neg ne10, rT_n h9 hT.1, sb, hT.2.2.2.2.2.2.1, e1, sb, if_neg ne10, C1.2.2.2.1.2.2.2.2.1]
      · unfold f_X12_then
        rw [h, sb, if_neg ne10, i1, sb, if_neg ne10, e5, sb, e6, sb, if_neg ne10, r_homes hw X6.2.2.1 X6.2.2.2.1 X6.2.1, sb, msk_6 _ hY (fun y hy hq => by
          unfold hmB
          rw [((X6.2.1.2.1 y hy).2.2.2.2 hq).2.1]
          rfl)]
  · refine ⟨-1, M, M, ?_, ?_, R0⟩
    · unfold f_X11_then
      rw [hours_in, h, sb, if_neg ne10, i2, sb, if_pos rfl]
    · unfold f_X12_then
      rw [h, sb, if_neg ne10, i1, sb, if_pos rfl]
theorem s_year {M : Mem} (R : Rel M) (x1 x2 x3 : Int32) : OkB (f_X11_year x1 x2 x3 M) (f_X12_year x1 x2 x3) := by
  have R0 := R
  obtain ⟨t, v, τ, ρ, F, R⟩ := R
  have hw := R.1
  have hT : TC t τ M := R.2.2.1
  have hV : TR v τ M := R.2.2.2.1
  have h9 : M.2.2 0 9 = some t := R.2.2.2.2.2.2.1.1
  have hS : tS τ ≤ 10 := hw.2.1
  rcases ar_in x1 (n := tS τ) (by omega) with h | ⟨s, hs, rfl⟩
  · refine ⟨-1, M, M, ?_, ?_, R0⟩
    · unfold f_X11_year
      rw [c_isStreet_o hT h9 h, sb, if_pos rfl]
    · unfold f_X12_year
      rw [r_isStreet_o hw hV h, sb, if_pos rfl]
  rcases hrs x2 with h | ⟨n, hn, rfl, h⟩
  · refine ⟨-1, M, M, ?_, ?_, R0⟩
    · unfold f_X11_year
      rw [c_isStreet_i hw hT h9 hs, sb, if_neg ne10, hours_in, h, sb, if_pos rfl]
    · unfold f_X12_year
      rw [r_isStreet_i hw hV hs, sb, if_neg ne10, h, sb, if_pos rfl]
  by_cases hm : x3 < 1 ∨ ¬ x3 ≤ 20
  · refine ⟨-1, M, M, ?_, ?_, R0⟩
    · unfold f_X11_year
      rw [c_isStreet_i hw hT h9 hs, sb, if_neg ne10, hours_in, h, sb, if_neg ne10]
      by_cases h1 : x3 < 1
      · rw [if_pos h1]
      · rw [if_neg h1, if_neg (hm.resolve_left h1)]
    · have e : f_X12_in x3 1 20 = some 0 := by
        unfold f_X12_in
        by_cases h1 : x3 < 1
        · rw [if_pos h1]
        · rw [if_neg h1, if_pos (Int32.not_le.mp (hm.resolve_left h1))]
      unfold f_X12_year
      rw [r_isStreet_i hw hV hs, sb, if_neg ne10, h, sb, if_neg ne10, e, sb, if_pos rfl]
  have hm1 : ¬ x3 < 1 := fun z => hm (Or.inl z)
  have hm2 : x3 ≤ 20 := Classical.byContradiction (fun z => hm (Or.inr z))
  obtain ⟨m, hm3, rfl⟩ : ∃ m : Nat, m ≤ 20 ∧ x3 = nI m := nI_of2 (M := 20) (n := 20) (by decide) (fun z => hm1 (Int32.lt_trans z (by decide))) hm2
  obtain ⟨g, hg⟩ : ∃ g : Nat → Bool, g = fun i => litB τ (gsN F τ ρ (nI (tE τ) + nI i) true n) s := ⟨_, rfl⟩
  have e1 : f_X12_in (nI m) 1 20 = some 1 := by
    unfold f_X12_in
    rw [if_neg hm1, if_neg (Int32.not_lt.mpr hm2)]
  obtain ⟨A, eA, qA, RA⟩ := loopQ (fun fu y (u : Int32 × Mem) => f_X11_year_L34 fu (nI s) (nI n) (nI m) u.1 (nI y) u.2) (fun y u => RelP t v τ ρ F u.2 ∧ u.1 = nI (sumN (fun i => if g i then 1 else 0) y)) (fun u => u.1 = nI (sumN (fun i => if g i then 1 else 0) m) ∧ RelP t v τ ρ F u.2) m (by omega) (fun fu u hP => by
      refine ⟨u, ?_, hP.2, hP.1⟩
      show f_X11_year_L34 (fu + 1) _ _ _ _ _ _ = _
      rw [f_X11_year_L34, if_pos (nI_le (Nat.le_refl _) (by omega))]) (fun fu y u hy hP => by
      obtain ⟨M1, e1, C1, R1⟩ := c_night (sd := nI (tE τ) + nI y) (m := n) hP.1 (by omega)
      have hT' : TC t τ u.2 := hP.1.2.2.1
      right
      show ∃ u', f_X11_year_L34 (fu + 1) _ _ _ _ _ _ = f_X11_year_L34 fu _ _ _ _ _ _ ∧ _
      rw [f_X11_year_L34, if_neg (nI_ge hy (by omega)), rT_n hP.1.2.2.2.2.2.2.1.1 hT'.1, sb, hT'.2.2.2.2.2.2.1, e1, sb, c_lit hw C1.2.2.1 C1.2.2.2.1 C1.2.1 hs, sb, sumN_s]
      have eg : litB τ (gsN F τ ρ (nI (tE τ) + nI y) true n) s = g y := by rw [hg]
      rw [eg]
      cases g y
      · rw [if_neg Bool.false_ne_true, if_pos rfl, lt_def, nI_1, if_neg Bool.false_ne_true]
        exact ⟨(u.1, M1), rfl, R1, hP.2⟩
      · rw [if_pos rfl, if_neg ne10, lt_def, lt_def, nI_1, if_pos rfl, hP.2, nI_1]
        exact ⟨(_, M1), rfl, R1, rfl⟩) (0, M) ⟨R, rfl⟩
  obtain ⟨B, eB, qB, RB⟩ := loopQ (fun fu y (u : Int32 × Mem) => f_X12_year_L36 fu (nI s) (nI n) (nI m) u.1 (nI y) u.2) (fun y u => RelP t v τ ρ F u.2 ∧ u.1 = nI (sumN (fun i => if g i then 1 else 0) y)) (fun u => u.1 = nI (sumN (fun i => if g i then 1 else 0) m) ∧ RelP t v τ ρ F u.2) m (by omega) (fun fu u hP => by
      refine ⟨u, ?_, hP.2, hP.1⟩
      show f_X12_year_L36 (fu + 1) _ _ _ _ _ _ = _
      rw [f_X12_year_L36, if_pos (nI_le (Nat.le_refl _) (by omega))]) (fun fu y u hy hP => by
      obtain ⟨M5, e5, R5, X5, f5, h55, h56⟩ := hP.1.rx
      have fS : FrM [] M5 (sI M5 67 55 (nI (tE τ) + nI y)) := ⟨fun a _ h67 => sI_cell h67, fun k _ b _ => sI_ix b, rfl⟩
      have X6 := X5.fr fS (by decide)
      obtain ⟨M6, e6, X7, f6⟩ := r_goes (fl := true) (m := n) (sd := nI (tE τ) + nI y) X6 sI_same ((sI_ix (by decide)).trans h56) (by omega)
      have R7 := (R5.fm fS (by decide)).fm f6.m (by decide)
      right
      show ∃ u', f_X12_year_L36 (fu + 1) _ _ _ _ _ _ = f_X12_year_L36 fu _ _ _ _ _ _ ∧ _
      rw [f_X12_year_L36, if_neg (nI_ge hy (by omega)), e5, sb, h55, lt_def, e6, sb, r_need hw X7.2.2.1 X7.2.2.2.1 X7.2.1 hs, sb, sumN_s]
      have h99 : need τ (gsN F τ ρ (nI (tE τ) + nI y) true n) s ≤ 99 := by
        have := (hw.2.2.2.2.2.2 s hs).2.2.2.2
        unfold need
        omega
      have eg : litB τ (gsN F τ ρ (nI (tE τ) + nI y) true n) s = g y := by rw [hg]
      rw [← eg]
      by_cases hz : need τ (gsN F τ ρ (nI (tE τ) + nI y) true n) s = 0
      · have el : litB τ (gsN F τ ρ (nI (tE τ) + nI y) true n) s = true := by unfold litB; rw [hz]; rfl
        rw [hz, if_pos nI_0, lt_def, lt_def, nI_1, el, if_pos rfl, hP.2, nI_1]
        exact ⟨(_, M6), rfl, R7, rfl⟩
      · have el : litB τ (gsN F τ ρ (nI (tE τ) + nI y) true n) s = false := by unfold litB; exact beq_eq_false_iff_ne.mpr hz
        rw [if_neg (nI_ne0 (by omega) (by omega)), lt_def, nI_1, el, if_neg Bool.false_ne_true]
        exact ⟨(u.1, M6), rfl, R7, hP.2⟩) (0, A.2) ⟨RA, rfl⟩
  refine ⟨A.1, A.2, B.2, ?_, ?_, RB.rel⟩
  · unfold f_X11_year
    rw [c_isStreet_i hw hT h9 hs, sb, if_neg ne10, hours_in, h, sb, if_neg ne10, if_neg hm1, if_pos hm2, show f_X11_year_L34 FU (nI s) (nI n) (nI m) 0 0 M = some A from eA, sb]
  · unfold f_X12_year
    rw [r_isStreet_i hw RA.tr hs, sb, if_neg ne10, h, sb, if_neg ne10, e1, sb, if_neg ne10, show f_X12_year_L36 FU (nI s) (nI n) (nI m) 0 0 A.2 = some B from eB, sb, qA, qB]
/-- the first hour at which it is not lit -/
def dkQ (L : Nat → Bool) (x : Int32) : Prop := (x = -2 ∧ ∀ j, j ≤ 100 → L j = true) ∨ ∃ h, h ≤ 100 ∧ x = nI h ∧ L h = false ∧ ∀ j, j < h → L j = true
theorem dkQ_u {L : Nat → Bool} {x x' : Int32} (h : dkQ L x) (h' : dkQ L x') : x = x' := by
  rcases h with ⟨rfl, h⟩ | ⟨a, ha, rfl, h1, h2⟩
  · rcases h' with ⟨rfl, _⟩ | ⟨b, hb, rfl, h3, _⟩
    · rfl
    · rw [h b hb] at h3
      cases h3
  · rcases h' with ⟨rfl, h⟩ | ⟨b, hb, rfl, h3, h4⟩
    · rw [h a ha] at h1
      cases h1
    · rcases Nat.lt_trichotomy a b with q | q | q
      · rw [h4 a q] at h1
        cases h1
      · rw [q]
      · rw [h2 b q] at h3
        cases h3
theorem s_darkens {M : Mem} (R : Rel M) (x1 : Int32) : OkB (f_X11_darkens x1 M) (f_X12_darkens x1) := by
  have R0 := R
  obtain ⟨t, v, τ, ρ, F, R⟩ := R
  have hw := R.1
  have hT : TC t τ M := R.2.2.1
  have hV : TR v τ M := R.2.2.2.1
  have h9 : M.2.2 0 9 = some t := R.2.2.2.2.2.2.1.1
  have hS : tS τ ≤ 10 := hw.2.1
  rcases ar_in x1 (n := tS τ) (by omega) with h | ⟨s, hs, rfl⟩
  · refine ⟨-1, M, M, ?_, ?_, R0⟩
    · unfold f_X11_darkens
      rw [c_isStreet_o hT h9 h, sb, if_pos rfl]
    · unfold f_X12_darkens
      rw [r_isStreet_o hw hV h, sb, if_pos rfl]
  obtain ⟨M1, e1, C1, f1⟩ := c_copy R.cx
  have R1 := R.kp (f1.kp (by decide))
  obtain ⟨L, hL⟩ : ∃ L : Nat → Bool, L = fun i => litB τ (gsN F τ ρ 0 false i) s := ⟨_, rfl⟩
  have eL : ∀ i, litB τ (gsN F τ ρ 0 false i) s = L i := fun i => by rw [hL]
  obtain ⟨A, eA, qA, RA⟩ := loopQ (fun fu y (u : Mem) => f_X0_hoursTillDark_L10 60 (fun t10 => some ((-2 : Int32), t10)) fu (nI s) (nI y) u) (fun y u => CX 38 t τ (gsN F τ ρ 0 false y) F u ∧ RelP t v τ ρ F u ∧ ∀ j, j < y → L j = true) (fun a => dkQ L a.1 ∧ RelP t v τ ρ F a.2) 101 (by omega) (fun fu u hP => by
      refine ⟨(-2, u), ?_, Or.inl ⟨rfl, fun j hj => hP.2.2 j (by omega)⟩, hP.2.1⟩
      show f_X0_hoursTillDark_L10 60 _ (fu + 1) _ _ _ = _
      rw [f_X0_hoursTillDark_L10, li 100, if_pos (nI_lt' (by omega) (by omega))]) (fun fu y u hy hP => by
      obtain ⟨C', R', hj⟩ := hP
      show (∃ a, f_X0_hoursTillDark_L10 60 _ (fu + 1) _ _ _ = some a ∧ _) ∨ ∃ u', f_X0_hoursTillDark_L10 60 _ (fu + 1) _ _ _ = f_X0_hoursTillDark_L10 60 _ fu _ _ _ ∧ _
      rw [f_X0_hoursTillDark_L10, li 100, if_neg (nI_nlt' (nI_le (by omega) (by omega))), c_lit hw C'.2.2.1 C'.2.2.2.1 C'.2.1 hs, sb, eL]
      cases hl : L y
      · left
        exact ⟨(nI y, u), by rw [if_neg Bool.false_ne_true, if_pos rfl], Or.inr ⟨y, by omega, rfl, hl, hj⟩, R'⟩
      · right
        obtain ⟨M2, e2, C2, f2⟩ := c_pass (sd := 0) (fl := false) (m := 1) C' (by omega)
        refine ⟨M2, ?_, C2, R'.kp (f2.c.kp (by decide)), fun j hjj => ?_⟩
        · rw [if_pos rfl, if_neg ne10, show f_X0_passHours 38 1 0 0 u = some M2 from e2, sb, lt_def, nI_1]
        · by_cases e : j = y
          · rw [e]; exact hl
          · exact hj j (by omega)) M1 ⟨C1, R1, fun j hj => absurd hj (by omega)⟩
  obtain ⟨M5, e5, R5, X5, f5, h55, h56⟩ := RA.rx
  have fS : FrM [] M5 (sI M5 67 56 1) := ⟨fun a _ h67 => sI_cell h67, fun k _ _ b => sI_ix b, rfl⟩
  have X6 := X5.fr fS (by decide)
  have R6 := R5.fm fS (by decide)
  obtain ⟨B, eB, qB, RB⟩ := loopQ (fun fu y (u : Mem) => f_X12_darkens_L16 (fun t13 => some ((-2 : Int32), t13)) fu (nI s) (nI y) u) (fun y u => RX v τ (gsN F τ ρ 0 false y) F u ∧ RelP t v τ ρ F u ∧ u.1 67 56 = 1 ∧ ∀ j, j < y → L j = true) (fun a => dkQ L a.1 ∧ RelP t v τ ρ F a.2) 101 (by omega) (fun fu u hP => by
      refine ⟨(-2, u), ?_, Or.inl ⟨rfl, fun j hj => hP.2.2.2 j (by omega)⟩, hP.2.1⟩
      show f_X12_darkens_L16 _ (fu + 1) _ _ _ = _
      rw [f_X12_darkens_L16, li 100, if_pos (nI_lt' (by omega) (by omega))]) (fun fu y u hy hP => by
      obtain ⟨C', R', h1, hj⟩ := hP
      have h99 : need τ (gsN F τ ρ 0 false y) s ≤ 99 := by
        have := (hw.2.2.2.2.2.2 s hs).2.2.2.2
        unfold need
        omega
      show (∃ a, f_X12_darkens_L16 _ (fu + 1) _ _ _ = some a ∧ _) ∨ ∃ u', f_X12_darkens_L16 _ (fu + 1) _ _ _ = f_X12_darkens_L16 _ fu _ _ _ ∧ _
      rw [f_X12_darkens_L16, li 100, if_neg (nI_nlt' (nI_le (by omega) (by omega))), r_need hw C'.2.2.1 C'.2.2.2.1 C'.2.1 hs, sb]
      by_cases hz : need τ (gsN F τ ρ 0 false y) s = 0
      · have el : L y = true := by
          rw [← eL]
          unfold litB
          rw [hz]
          rfl
        right
        obtain ⟨M2, e2, C2, f2⟩ := r_hour (fl := false) (sd := u.1 67 55) C' rfl h1
        rw [if_neg Bool.false_ne_true] at C2
        have eG : gsN F τ ρ 0 false (y + 1) = hrP F τ (gsN F τ ρ 0 false y) (-1) := by
          rw [gsN, if_neg Bool.false_ne_true]
        refine ⟨M2, ?_, by rw [eG]; exact C2, rhK R' f2.m, (f2.2.1 56 (by decide)).trans h1, fun j hjj => ?_⟩
        · rw [hz, if_pos (by decide), e2, sb, lt_def, nI_1]
        · by_cases e : j = y
          · rw [e]; exact el
          · exact hj j (by omega)
      · have el : L y = false := by
          rw [← eL]
          unfold litB
          exact beq_eq_false_iff_ne.mpr hz
        left
        exact ⟨(nI y, u), by rw [if_neg (nI_nle (by omega) (by omega))], Or.inr ⟨y, by omega, rfl, el, hj⟩, R'⟩) (sI M5 67 56 1) ⟨X6, R6, sI_same, fun j hj => absurd hj (by omega)⟩
  refine ⟨A.1, A.2, B.2, ?_, ?_, RB.rel⟩
  · unfold f_X11_darkens f_X0_hoursTillDark
    rw [c_isStreet_i hw hT h9 hs, sb, if_neg ne10, e1, sb, show f_X0_hoursTillDark_L10 60 (fun t10 => some ((-2 : Int32), t10)) FU (nI s) 0 M1 = some A from eA, sb]
  · unfold f_X12_darkens f_X12_copiesStill
    rw [r_isStreet_i hw RA.tr hs, sb, if_neg ne10, e5, sb, lt_def, sb, show f_X12_darkens_L16 (fun t13 => some ((-2 : Int32), t13)) FU (nI s) 0 (sI M5 67 56 1) = some B from eB, dkQ_u qA qB]

-- 31.move: pure: move, rouge
theorem s_move {M : Mem} (R : Rel M) (x1 x2 : Int32) : OkB (f_X11_move x1 x2 M) (f_X12_move x1 x2) := by
  have R0 := R
  obtain ⟨t, v, τ, ρ, F, R⟩ := R
  obtain ⟨MB, eB, kB, th⟩ := thing R
  have hw := R.1
  have wn := R.2.1
  have hT : TC t τ M := R.2.2.1
  have hV : TR v τ M := R.2.2.2.1
  have hN : NC 60 t τ ρ M := R.2.2.2.2.1
  have hM : NR 103 τ ρ M := R.2.2.2.2.2.1
  have h9 : M.2.2 0 9 = some t := R.2.2.2.2.2.2.1.1
  have hY : tY τ ≤ 6 := hw.2.2.1
  have hC : tC τ ≤ 7 := hw.1
  have bad : f_X11_move x1 x2 M = some (0, M) → f_X12_move x1 x2 M = some (0, M) → OkB (f_X11_move x1 x2 M) (f_X12_move x1 x2) := fun a b => ⟨0, M, M, a, b, R0⟩
  rcases c_isOut R x1 with ⟨o1, o2⟩ | ⟨j, hj, rfl, hj0, o1, o2⟩
  · apply bad
    · unfold f_X11_move
      rw [o1, sb, if_pos rfl]
    · unfold f_X12_move
      rw [o2, sb, if_pos rfl]
  rcases ar_in x2 (n := tC τ) (by omega) with h | ⟨c, hc, rfl⟩
  · apply bad
    · unfold f_X11_move
      rw [o1, sb, if_neg ne10, c_isCorner_o hT h9 h, sb, if_pos rfl]
    · unfold f_X12_move
      rw [o2, sb, if_neg ne10, r_isCorner_o hw hV h, sb, if_pos rfl]
  have ej : M.1 61 j = nI (ρ j) := hN.2.2.2.2.2.2.1 j hj
  have hat := wn.1 j hj
  by_cases e : ρ j = c
  · apply bad
    · unfold f_X11_move
      rw [o1, sb, if_neg ne10, c_isCorner_i hw hT h9 hc, sb, if_neg ne10, ag_n (by omega) (by omega), sb, ej, e, if_pos rfl]
    · unfold f_X12_move
      rw [o2, sb, if_neg ne10, r_isCorner_i hw hV hc, sb, if_neg ne10, ag_n (by omega) (by omega), sb, hM.1 j (by omega) (by omega), e, if_pos rfl]
  have ne : ¬ nI (ρ j) = nI c := fun z => e (nI_inj (by omega) (by omega) z)
  let ρ' : Nat → Nat := fun i => if i = j then c else ρ i
  have r1 : ∀ i, i ≠ j → ρ' i = ρ i := fun i hi => if_neg hi
  have r0 : ρ' j = c := if_pos rfl
  let MC : Mem := sI MB 61 j (nI c)
  have kC : KpX [60, 61, 62, 63, 64, 65, 66] [] MB MC := KpX.set (by decide) (by decide)
  have kA : KpX [48, 57, 58, 60, 61, 62, 63, 64, 65, 66] [] M MC := KpX.tr (kB.sub (by decide) (by decide)) (kC.sub (by decide) (by decide))
  have V1 : TR v τ MC := hV.kx kA (by decide) (by decide)
  have N1 : NR 103 τ ρ MC := hM.kx kA (by decide)
  obtain ⟨b1, b2, b3, b4, b5, b6, b7, b8, b9⟩ := hN.kx kB (by decide)
  have nC : NC 60 t τ ρ' MC := by
    have hm : mskN (hmB ρ') 6 = mskN (hmB ρ) 6 := mskN_cong (fun y hy => by unfold hmB; rw [r1 _ (by omega)])
    have hg : mskN (rgB ρ') 6 = mskN (rgB ρ) 6 := mskN_cong (fun y hy => by unfold rgB; rw [r1 _ (by omega)])
    have s : ∀ q, q ≠ 61 → MC.1 q = MB.1 q := fun q hq => sI_cell hq
    refine ⟨b1, b2, ?_, fun q => ?_, ?_, ?_, fun y hy => ?_, fun y hy => ?_, fun w hw => ?_⟩
    · rw [s 60 (by decide), r1 47 (by omega)]; exact b3
    · rw [s 60 (by decide), r1 46 (by omega)]; exact b4 q
    · rw [s 60 (by decide), hm]; exact b5
    · rw [s 60 (by decide), hg]; exact b6
    · by_cases ey : y = j
      · subst ey
        rw [r0]
        exact sI_same
      · rw [r1 y ey]
        exact (sI_ix ey).trans (b7 y hy)
    · rw [s (60 + 2) (by decide), s (60 + 3) (by decide), s (60 + 4) (by decide), r1 _ (by omega), r1 _ (by omega), r1 _ (by omega)]; exact b8 y hy
    · rw [s (60 + 5) (by decide), s (60 + 6) (by decide), r1 _ (by omega), r1 _ (by omega)]; exact b9 w hw
  have wn' : wfN τ ρ' := by
    refine ⟨fun y hy => ?_, fun y hy => ?_, fun w hw => ?_, fun h => ?_⟩
    · by_cases ey : y = j
      · rw [ey, r0]; exact hc
      · rw [r1 y ey]; exact wn.1 y hy
    · rw [r1 (6 + y) (by omega), r1 (12 + y) (by omega), r1 (30 + y) (by omega)]; exact wn.2.1 y hy
    · rw [r1 _ (by omega)]; exact wn.2.2.1 w hw
    · rw [r1 _ (by omega)]; exact wn.2.2.2 h
  obtain ⟨D, eD, fD, nD, -, -⟩ := r_copy N1 V1
  have nD' : NR 104 τ ρ' (sI D 104 j (nI c)) := by
    refine ⟨fun i hi h46 => ?_, fun q => ?_, fun q => ?_⟩
    · by_cases ei : i = j
      · subst ei
        rw [sI_same, r0]
      · rw [sI_ix ei, r1 i ei]; exact nD.1 i hi h46
    · rw [sI_ix (by omega), r1 46 (by omega)]; exact nD.2.1 q
    · rw [sI_ix (by omega)]; exact nD.2.2 q
  have kD : Kp MC (sI D 104 j (nI c)) := (fD.tr (FrM.set (S := [104]) (by decide) (by decide))).kp (by decide)
  obtain ⟨M2, e2, R2, -⟩ := th ρ' MC (sI D 104 j (nI c)) wn' kC nC kD nD'
  refine ⟨1, MC, M2, ?_, ?_, t, v, τ, ρ', F, R2⟩
  · unfold f_X11_move
    rw [o1, sb, if_neg ne10, c_isCorner_i hw hT h9 hc, sb, if_neg ne10, ag_n (by omega) (by omega), sb, ej, if_neg ne, eB, sb, pg_n (by omega) (by omega), sb]
  · unfold f_X12_move
    rw [r_isOut_i hw V1 N1 hj hj0, sb, if_neg ne10, r_isCorner_i hw V1 hc, sb, if_neg ne10, ag_n (by omega) (by omega), sb, N1.1 j (by omega) (by omega), if_neg ne, eD, sb, pg_n (by omega) (by omega), sb, e2, sb]
theorem s_rouge {M : Mem} (R : Rel M) (x1 : Int32) : OkB (f_X11_rouge x1 M) (f_X12_rouge x1) := by
  have R0 := R
  obtain ⟨t, v, τ, ρ, F, R⟩ := R
  obtain ⟨MB, eB, kB, th⟩ := thing R
  have hw := R.1
  have wn := R.2.1
  have hV : TR v τ M := R.2.2.2.1
  have hN : NC 60 t τ ρ M := R.2.2.2.2.1
  have hM : NR 103 τ ρ M := R.2.2.2.2.2.1
  have hY : tY τ ≤ 6 := hw.2.2.1
  have bad : f_X11_rouge x1 M = some (0, M) → f_X12_rouge x1 M = some (0, M) → OkB (f_X11_rouge x1 M) (f_X12_rouge x1) := fun a b => ⟨0, M, M, a, b, R0⟩
  rcases c_isOut R x1 with ⟨o1, o2⟩ | ⟨j, hj, rfl, hj0, o1, o2⟩
  · apply bad
    · unfold f_X11_rouge
      rw [o1, sb, if_pos rfl]
    · unfold f_X12_rouge
      rw [o2, sb, if_pos rfl]
  obtain ⟨b1, b2, b3, b4, b5, b6, b7, b8, b9⟩ := hN.kx kB (by decide)
  have hg := (wn.2.1 j (by omega)).1
  obtain ⟨g, eg⟩ : ∃ g, g = if ρ (6 + j) + 20 < 999 then ρ (6 + j) + 20 else 999 := ⟨_, rfl⟩
  have g9 : g ≤ 999 := by rw [eg]; split <;> omega
  have eg1 : (if nI (ρ (6 + j) + 20) < nI 999 then nI (ρ (6 + j) + 20) else nI 999) = nI g := by
    rw [eg]
    by_cases h : ρ (6 + j) + 20 < 999
    · rw [if_pos h, if_pos (nI_lt' h (by omega))]
    · rw [if_neg h, if_neg (nI_nlt' (nI_le (by omega) (by omega)))]
  have eg2 : f_X12_within (nI (ρ (6 + j) + 20)) 0 (nI 999) = some (nI g) := by
    unfold f_X12_within
    rw [if_pos (Int32.not_lt.mp (nI_pos (by omega)))]
    by_cases h : ρ (6 + j) + 20 < 999
    · rw [if_pos (nI_le (by omega) (by omega)), eg, if_pos h]
    · by_cases h2 : ρ (6 + j) + 20 = 999
      · rw [h2, if_pos (nI_le (by omega) (by omega)), eg, if_neg (by omega)]
      · rw [if_neg (nI_ge (by omega) (by omega)), eg, if_neg h]
  let ρ' : Nat → Nat := fun i => if i = 6 + j then g else if i = 30 + j then 1 else ρ i
  have r1 : ∀ i, i ≠ 6 + j → i ≠ 30 + j → ρ' i = ρ i := fun i h1 h2 => (if_neg h1).trans (if_neg h2)
  have r6 : ρ' (6 + j) = g := if_pos rfl
  have r30 : ρ' (30 + j) = 1 := (if_neg (by omega)).trans (if_pos rfl)
  let MP : Mem := sI MB 62 j (nI g)
  let MC : Mem := sI MP 60 4 (nI (mskN (rgB ρ') 6))
  have kC : KpX [60, 61, 62, 63, 64, 65, 66] [] MB MC := KpX.tr (KpX.set (by decide) (by decide)) (KpX.set (by decide) (by decide))
  have kA : KpX [48, 57, 58, 60, 61, 62, 63, 64, 65, 66] [] M MC := KpX.tr (kB.sub (by decide) (by decide)) (kC.sub (by decide) (by decide))
  have V1 : TR v τ MC := hV.kx kA (by decide) (by decide)
  have N1 : NR 103 τ ρ MC := hM.kx kA (by decide)
  have hmk : mskN (rgB ρ) 6 ||| 2 ^ j = mskN (rgB ρ') 6 := by
    rw [msk_set (by omega)]
    refine mskN_cong (fun y hy => ?_)
    by_cases ey : y = j
    · subst ey
      unfold rgB
      rw [r30]
      simp
    · have : (y == j) = false := beq_eq_false_iff_ne.mpr ey
      unfold rgB
      rw [r1 (30 + y) (by omega) (by omega), this, Bool.or_false]
  have s60 : ∀ i, i ≠ 4 → MC.1 60 i = MB.1 60 i := fun i hi => (sI_ix hi).trans (congrFun (sI_cell (by decide)) i)
  have s : ∀ q, q ≠ 60 → q ≠ 62 → MC.1 q = MB.1 q := fun q h1 h2 => (sI_cell h1).trans (sI_cell h2)
  have s62 : MC.1 62 = MP.1 62 := sI_cell (by decide)
  have nC : NC 60 t τ ρ' MC := by
    have hm : mskN (hmB ρ') 6 = mskN (hmB ρ) 6 := mskN_cong (fun y hy => by unfold hmB; rw [r1 _ (by omega) (by omega)])
    refine ⟨b1, b2, ?_, fun q => ?_, ?_, sI_same, fun y hy => ?_, fun y hy => ⟨?_, ?_, ?_⟩, fun w hw => ?_⟩
    · rw [s60 1 (by decide), r1 47 (by omega) (by omega)]; exact b3
    · rw [s60 2 (by decide), r1 46 (by omega) (by omega)]; exact b4 q
    · rw [s60 3 (by decide), hm]; exact b5
    · rw [s (60 + 1) (by decide) (by decide), r1 y (by omega) (by omega)]; exact b7 y hy
    · by_cases ey : y = j
      · subst ey
        rw [r6]
        exact (congrFun s62 y).trans sI_same
      · rw [r1 (6 + y) (by omega) (by omega)]
        exact (congrFun s62 y).trans ((sI_ix ey).trans (b8 y hy).1)
    · rw [s (60 + 3) (by decide) (by decide), r1 _ (by omega) (by omega)]; exact (b8 y hy).2.1
    · rw [s (60 + 4) (by decide) (by decide), r1 _ (by omega) (by omega)]; exact (b8 y hy).2.2
    · rw [s (60 + 5) (by decide) (by decide), s (60 + 6) (by decide) (by decide), r1 _ (by omega) (by omega), r1 _ (by omega) (by omega)]; exact b9 w hw
  have wn' : wfN τ ρ' := by
    refine ⟨fun y hy => ?_, fun y hy => ?_, fun w hw => ?_, fun h => ?_⟩
    · rw [r1 y (by omega) (by omega)]; exact wn.1 y hy
    · by_cases ey : y = j
      · subst ey
        rw [r6, r30, r1 (12 + y) (by omega) (by omega), hj0]
        exact ⟨g9, by omega, by omega, by omega, by omega⟩
      · rw [r1 (6 + y) (by omega) (by omega), r1 (12 + y) (by omega) (by omega), r1 (30 + y) (by omega) (by omega)]; exact wn.2.1 y hy
    · rw [r1 _ (by omega) (by omega)]; exact wn.2.2.1 w hw
    · rw [r1 _ (by omega) (by omega)]; exact wn.2.2.2 h
  obtain ⟨D, eD, fD, nD, -, -⟩ := r_copy N1 V1
  let MD : Mem := sI (sI D 104 (6 + j) (nI g)) 104 (30 + j) 1
  have nD' : NR 104 τ ρ' MD := by
    refine ⟨fun i hi h46 => ?_, fun q => ?_, fun q => ?_⟩
    · by_cases ei : i = 30 + j
      · subst ei
        rw [r30]
        exact sI_same
      · refine (sI_ix ei).trans ?_
        by_cases ei2 : i = 6 + j
        · subst ei2
          rw [sI_same, r6]
        · rw [sI_ix ei2, r1 i ei2 ei]; exact nD.1 i hi h46
    · rw [r1 46 (by omega) (by omega)]; exact (sI_ix (by omega)).trans ((sI_ix (by omega)).trans (nD.2.1 q))
    · exact (sI_ix (by omega)).trans ((sI_ix (by omega)).trans (nD.2.2 q))
  have kD : Kp MC MD := (fD.tr ((FrM.set (S := [104]) (by decide) (by decide)).tr (FrM.set (S := [104]) (by decide) (by decide)))).kp (by decide)
  obtain ⟨M2, e2, R2, -⟩ := th ρ' MC MD wn' kC nC kD nD'
  refine ⟨1, MC, M2, ?_, ?_, t, v, τ, ρ', F, R2⟩
  · have p4 : MP.1 60 4 = nI (mskN (rgB ρ) 6) := (congrFun (sI_cell (by decide)) 4).trans b6
    have b62 : MB.1 62 j = nI (ρ (6 + j)) := (b8 j (by omega)).1
    unfold f_X11_rouge
    rw [o1, sb, if_neg ne10, eB, sb, ag_n (by omega) (by omega), sb, b62, li 20, nI_add, li 999, eg1, lt_def, pg_n (by omega) (by omega), sb, lt_def]
    show some ((1 : Int32), sI MP 60 4 (MP.1 60 4 ||| _)) = _
    rw [p4, sh1 (by omega), or_n, hmk]
  · unfold f_X12_rouge
    rw [r_isOut_i hw V1 N1 hj hj0, sb, if_neg ne10, eD, sb, li 6, nI_add, ag_n (by omega) (by omega), sb, nD.1 (6 + j) (by omega) (by omega), li 20, nI_add, li 999, eg2, sb, pg_n (by omega) (by omega), sb, li 30, nI_add, pg_n (by omega) (by omega), sb]
    show (f_X12_records MD).bind _ = _
    rw [e2, sb]

-- 48.say: pure: say
theorem s_say {M : Mem} (R : Rel M) (x1 x2 : Int32) : OkB (f_X11_say x1 x2 M) (f_X12_say x1 x2) := by
  have R0 := R
  obtain ⟨t, v, τ, ρ, F, R⟩ := R
  have hw := R.1
  have wn := R.2.1
  have hT : TC t τ M := R.2.2.1
  have hV : TR v τ M := R.2.2.2.1
  have hN : NC 60 t τ ρ M := R.2.2.2.2.1
  have hM : NR 103 τ ρ M := R.2.2.2.2.2.1
  have h9 : M.2.2 0 9 = some t := R.2.2.2.2.2.2.1.1
  have hY : tY τ ≤ 6 := hw.2.2.1
  have hW : tW τ ≤ 5 := hw.2.2.2.1
  have hC : tC τ ≤ 7 := hw.1
  have bad : f_X11_say x1 x2 M = some (-1, M) → f_X12_say x1 x2 M = some (-1, M) → OkB (f_X11_say x1 x2 M) (f_X12_say x1 x2) := fun a b => ⟨-1, M, M, a, b, R0⟩
  rcases c_isOut R x1 with ⟨o1, o2⟩ | ⟨j, hj, rfl, hj0, o1, o2⟩
  · apply bad
    · unfold f_X11_say
      rw [o1, sb, if_pos rfl]
    · unfold f_X12_say
      rw [o2, sb, if_pos rfl]
  rcases ar_in x2 (n := tW τ) (by omega) with h | ⟨w, hW2, rfl⟩
  · apply bad
    · unfold f_X11_say
      rw [o1, sb, if_neg ne10, c_isWord_o hT h9 h, sb, if_pos rfl]
    · unfold f_X12_say
      rw [o2, sb, if_neg ne10, r_isWord_o hw hV h, sb, if_pos rfl]
  have ej : M.1 61 j = nI (ρ j) := hN.2.2.2.2.2.2.1 j hj
  have hat := wn.1 j hj
  have hc : 0 < tC τ := by omega
  have k46 := wn.2.2.2 hc
  have kl : M.1 60 2 = nI (ρ 46) := hN.2.2.2.1 hc
  have km : M.1 103 46 = nI (ρ 46) := hM.2.1 hc
  by_cases e : ρ j = ρ 46
  case neg =>
    apply bad
    · unfold f_X11_say
      rw [o1, sb, if_neg ne10, c_isWord_i hw hT h9 hW2, sb, if_neg ne10, ag_n (by omega) (by omega), sb, ej, kl, if_neg (fun z => e (nI_inj (by omega) (by omega) z))]
    · unfold f_X12_say
      rw [o2, sb, if_neg ne10, r_isWord_i hw hV hW2, sb, if_neg ne10, ag_n (by omega) (by omega), sb, li 46, ag_n (by omega) (by omega), sb, hM.1 j (by omega) (by omega), km, if_neg (fun z => e (nI_inj (by omega) (by omega) z))]
  obtain ⟨MB, eB, CB, b9, th⟩ := thing2 R
  obtain ⟨M1, e1, f1⟩ := c_wears CB isL_31 hj hW2
  obtain ⟨M2, e2, f2⟩ := c_would (CB.fl f1) isL_31 hj hW2
  have C2 := (CB.fl f1).fl f2
  have g9 := wgN_le (F := F) (τ := τ) (ρ := ρ) j w
  have h99 := wn.2.2.1 w (by omega)
  have u99 := waN_le (F := F) (τ := τ) (ρ := ρ) j w
  obtain ⟨g, hg⟩ : ∃ g, g = wgN F τ ρ j w := ⟨_, rfl⟩
  obtain ⟨h, hh⟩ : ∃ h, h = ρ (36 + w) - waN F τ ρ j w := ⟨_, rfl⟩
  let ρ' : Nat → Nat := fun k => if k = 6 + j then g else if k = 36 + w then h else if k = 41 + w then ρ (41 + w) + 1 else if k = 18 + j then ρ (18 + j) + 1 else if k = 24 + j then ρ 47 else ρ k
  have r6 : ρ' (6 + j) = g := if_pos rfl
  have r36 : ρ' (36 + w) = h := (if_neg (by omega)).trans (if_pos rfl)
  have r41 : ρ' (41 + w) = ρ (41 + w) + 1 := (if_neg (by omega)).trans ((if_neg (by omega)).trans (if_pos rfl))
  have r18 : ρ' (18 + j) = ρ (18 + j) + 1 := (if_neg (by omega)).trans ((if_neg (by omega)).trans ((if_neg (by omega)).trans (if_pos rfl)))
  have r24 : ρ' (24 + j) = ρ 47 := (if_neg (by omega)).trans ((if_neg (by omega)).trans ((if_neg (by omega)).trans ((if_neg (by omega)).trans (if_pos rfl))))
  have ro : ∀ k, k ≠ 6 + j → k ≠ 36 + w → k ≠ 41 + w → k ≠ 18 + j → k ≠ 24 + j → ρ' k = ρ k := fun k a b c d e => (if_neg a).trans ((if_neg b).trans ((if_neg c).trans ((if_neg d).trans (if_neg e))))
  have wn' : wfN τ ρ' := by
    refine ⟨fun y hy => ?_, fun y hy => ?_, fun q hq => ?_, fun z => ?_⟩
    · rw [ro y (by omega) (by omega) (by omega) (by omega) (by omega)]; exact wn.1 y hy
    · rw [ro (12 + y) (by omega) (by omega) (by omega) (by omega) (by omega), ro (30 + y) (by omega) (by omega) (by omega) (by omega) (by omega)]
      by_cases ey : y = j
      · subst ey
        rw [r6]
        have := wn.2.1 y hy
        exact ⟨by omega, this.2.1, this.2.2.1, by omega, by omega⟩
      · rw [ro (6 + y) (by omega) (by omega) (by omega) (by omega) (by omega)]; exact wn.2.1 y hy
    · by_cases eq : q = w
      · rw [eq, r36]; omega
      · rw [ro (36 + q) (by omega) (by omega) (by omega) (by omega) (by omega)]; exact wn.2.2.1 q hq
    · rw [ro 46 (by omega) (by omega) (by omega) (by omega) (by omega)]; exact wn.2.2.2 z
  obtain ⟨b1, b2, b3, b4, b5, b6, b7, b8, b9'⟩ := C2.2.2.2.1
  have q62 : M2.1 62 j = nI (ρ (6 + j)) := (b8 j (by omega)).1
  have q63 : M2.1 63 j = nI (ρ (18 + j)) := (b8 j (by omega)).2.1
  have q65 : M2.1 65 w = nI (ρ (36 + w)) := (b9' w (by omega)).1
  have q66 : M2.1 66 w = nI (ρ (41 + w)) := (b9' w (by omega)).2
  let MC : Mem := sI (sI (sI (sI (sI M2 62 j (nI g)) 65 w (nI h)) 66 w (nI (ρ (41 + w) + 1))) 63 j (nI (ρ (18 + j) + 1))) 64 j (nI (ρ 47))
  have m60 : MC.1 60 = M2.1 60 := (sI_cell (by decide)).trans ((sI_cell (by decide)).trans ((sI_cell (by decide)).trans ((sI_cell (by decide)).trans (sI_cell (by decide)))))
  have m61 : MC.1 61 = M2.1 61 := (sI_cell (by decide)).trans ((sI_cell (by decide)).trans ((sI_cell (by decide)).trans ((sI_cell (by decide)).trans (sI_cell (by decide)))))
  have m62 : MC.1 62 = (sI M2 62 j (nI g)).1 62 := (sI_cell (by decide)).trans ((sI_cell (by decide)).trans ((sI_cell (by decide)).trans (sI_cell (by decide))))
  have m65 : MC.1 65 = (sI (sI M2 62 j (nI g)) 65 w (nI h)).1 65 := (sI_cell (by decide)).trans ((sI_cell (by decide)).trans (sI_cell (by decide)))
  have m66 : MC.1 66 = (sI (sI (sI M2 62 j (nI g)) 65 w (nI h)) 66 w (nI (ρ (41 + w) + 1))).1 66 := (sI_cell (by decide)).trans (sI_cell (by decide))
  have m63 : MC.1 63 = (sI (sI (sI (sI M2 62 j (nI g)) 65 w (nI h)) 66 w (nI (ρ (41 + w) + 1))) 63 j (nI (ρ (18 + j) + 1))).1 63 := sI_cell (by decide)
  have kC : KpX nwS [] MB MC := KpX.tr ((f1.tr f2).kx (by decide) (by decide)) (KpX.tr (KpX.tr (KpX.tr (KpX.tr (KpX.set (by decide) (by decide)) (KpX.set (by decide) (by decide))) (KpX.set (by decide) (by decide))) (KpX.set (by decide) (by decide))) (KpX.set (by decide) (by decide)))
  have nC : NC 60 t τ ρ' MC := by
    refine ⟨b1, b2, ?_, fun q => ?_, ?_, ?_, fun y hy => ?_, fun y hy => ⟨?_, ?_, ?_⟩, fun q hq => ⟨?_, ?_⟩⟩
    · rw [m60, ro 47 (by omega) (by omega) (by omega) (by omega) (by omega)]; exact b3
    · rw [m60, ro 46 (by omega) (by omega) (by omega) (by omega) (by omega)]; exact b4 q
    · have em : mskN (hmB ρ') 6 = mskN (hmB ρ) 6 := mskN_cong (fun k hk => by unfold hmB; rw [ro _ (by omega) (by omega) (by omega) (by omega) (by omega)])
      rw [m60, em]; exact b5
    · have em : mskN (rgB ρ') 6 = mskN (rgB ρ) 6 := mskN_cong (fun k hk => by unfold rgB; rw [ro _ (by omega) (by omega) (by omega) (by omega) (by omega)])
      rw [m60, em]; exact b6
    · rw [ro y (by omega) (by omega) (by omega) (by omega) (by omega)]; exact (congrFun m61 y).trans (b7 y hy)
    · by_cases ey : y = j
      · rw [ey, r6]; exact (congrFun m62 j).trans sI_same
      · rw [ro (6 + y) (by omega) (by omega) (by omega) (by omega) (by omega)]; exact (congrFun m62 y).trans ((sI_ix ey).trans (b8 y hy).1)
    · by_cases ey : y = j
      · rw [ey, r18]; exact (congrFun m63 j).trans sI_same
      · rw [ro (18 + y) (by omega) (by omega) (by omega) (by omega) (by omega)]; exact (congrFun m63 y).trans ((sI_ix ey).trans ((congrFun ((sI_cell (by decide)).trans ((sI_cell (by decide)).trans (sI_cell (by decide)))) y).trans (b8 y hy).2.1))
    · by_cases ey : y = j
      · rw [ey, r24]; exact sI_same
      · rw [ro (24 + y) (by omega) (by omega) (by omega) (by omega) (by omega)]; exact (sI_ix ey).trans ((congrFun ((sI_cell (by decide)).trans ((sI_cell (by decide)).trans ((sI_cell (by decide)).trans (sI_cell (by decide))))) y).trans (b8 y hy).2.2)
    · by_cases eq : q = w
      · rw [eq, r36]; exact (congrFun m65 w).trans sI_same
      · rw [ro (36 + q) (by omega) (by omega) (by omega) (by omega) (by omega)]; exact (congrFun m65 q).trans ((sI_ix eq).trans ((congrFun (sI_cell (by decide)) q).trans (b9' q hq).1))
    · by_cases eq : q = w
      · rw [eq, r41]; exact (congrFun m66 w).trans sI_same
      · rw [ro (41 + q) (by omega) (by omega) (by omega) (by omega) (by omega)]; exact (congrFun m66 q).trans ((sI_ix eq).trans ((congrFun ((sI_cell (by decide)).trans (sI_cell (by decide))) q).trans (b9' q hq).2))
  obtain ⟨V1, N1, M5, e5, X5, h55, h56, th⟩ := th ρ' MC wn' nC kC
  obtain ⟨M6, e6, f6⟩ := r_glows X5 hj hW2
  have X6 := X5.fr f6.m (by decide)
  obtain ⟨M7, e7, f7⟩ := r_wears X6 hj hW2
  have X7 := X6.fr f7.m (by decide)
  have n7 : ∀ k, k < 48 → k ≠ 46 → M7.1 104 k = nI (ρ k) := X7.2.2.2.1.1
  have gw9 := gwN_le (F := F) (τ := τ) (ρ := ρ) j w
  have hgl := (wn.2.1 j (by omega)).1
  have eg : (if ρ (6 + j) + gwN F τ ρ j w < 999 then ρ (6 + j) + gwN F τ ρ j w else 999) = g := by
    rw [hg, wgN, if_neg (show ¬ ρ (12 + j) = 1 by omega)]
  let D1 : Mem := sI M7 104 (6 + j) (nI g)
  let D2 : Mem := sI D1 104 (36 + w) (nI h)
  let D3 : Mem := sI D2 104 (41 + w) (nI (ρ (41 + w) + 1))
  let D4 : Mem := sI D3 104 (18 + j) (nI (ρ (18 + j) + 1))
  let MD : Mem := sI D4 104 (24 + j) (nI (ρ 47))
  have d1 : D1.1 104 (36 + w) = nI (ρ (36 + w)) := (sI_ix (by omega)).trans (n7 _ (by omega) (by omega))
  have d2 : D2.1 104 (41 + w) = nI (ρ (41 + w)) := (sI_ix (by omega)).trans ((sI_ix (by omega)).trans (n7 _ (by omega) (by omega)))
  have d3 : D3.1 104 (18 + j) = nI (ρ (18 + j)) := (sI_ix (by omega)).trans ((sI_ix (by omega)).trans ((sI_ix (by omega)).trans (n7 _ (by omega) (by omega))))
  have d4 : D4.1 104 47 = nI (ρ 47) := (sI_ix (by omega)).trans ((sI_ix (by omega)).trans ((sI_ix (by omega)).trans ((sI_ix (by omega)).trans (n7 _ (by omega) (by omega)))))
  have fD : FrM rhS M5 MD := ((f6.m.tr f7.m).tr ((FrM.set (S := [104]) (by decide) (by decide)).tr ((FrM.set (S := [104]) (by decide) (by decide)).tr ((FrM.set (S := [104]) (by decide) (by decide)).tr ((FrM.set (S := [104]) (by decide) (by decide)).tr (FrM.set (S := [104]) (by decide) (by decide))))))).sub (by decide)
  have nD : NR 104 τ ρ' MD := by
    refine ⟨fun i hi h46 => ?_, fun q => ?_, fun q => absurd q (by omega)⟩
    · by_cases i5 : i = 24 + j
      · rw [i5, r24]; exact sI_same
      refine (sI_ix i5).trans ?_
      by_cases i4 : i = 18 + j
      · rw [i4, r18]; exact sI_same
      refine (sI_ix i4).trans ?_
      by_cases i3 : i = 41 + w
      · rw [i3, r41]; exact sI_same
      refine (sI_ix i3).trans ?_
      by_cases i2 : i = 36 + w
      · rw [i2, r36]; exact sI_same
      refine (sI_ix i2).trans ?_
      by_cases i1 : i = 6 + j
      · rw [i1, r6]; exact sI_same
      refine (sI_ix i1).trans ?_
      rw [ro i i1 i2 i3 i4 i5]
      exact n7 i hi h46
    · rw [ro 46 (by omega) (by omega) (by omega) (by omega) (by omega)]
      exact (sI_ix (by omega)).trans ((sI_ix (by omega)).trans ((sI_ix (by omega)).trans ((sI_ix (by omega)).trans ((sI_ix (by omega)).trans (X7.2.2.2.1.2.1 q)))))
  obtain ⟨ME, eE, RE, rE⟩ := th MD fD nD
  refine ⟨nI g, MC, ME, ?_, ?_, RE.rel⟩
  · have s1 : (sI M2 62 j (nI g)).1 65 w = nI (ρ (36 + w)) := (congrFun (sI_cell (by decide)) w).trans q65
    have s2 : (sI (sI M2 62 j (nI g)) 65 w (nI h)).1 66 w = nI (ρ (41 + w)) := (congrFun ((sI_cell (by decide)).trans (sI_cell (by decide))) w).trans q66
    have s3 : (sI (sI (sI M2 62 j (nI g)) 65 w (nI h)) 66 w (nI (ρ (41 + w) + 1))).1 63 j = nI (ρ (18 + j)) := (congrFun ((sI_cell (by decide)).trans ((sI_cell (by decide)).trans (sI_cell (by decide)))) j).trans q63
    have s4 : (sI (sI (sI (sI M2 62 j (nI g)) 65 w (nI h)) 66 w (nI (ρ (41 + w) + 1))) 63 j (nI (ρ (18 + j) + 1))).1 60 1 = nI (ρ 47) := (congrFun ((sI_cell (by decide)).trans ((sI_cell (by decide)).trans ((sI_cell (by decide)).trans (sI_cell (by decide))))) 1).trans b3
    have s5 : MC.1 62 j = nI g := (congrFun m62 j).trans sI_same
    unfold f_X11_say
    rw [o1, sb, if_neg ne10, c_isWord_i hw hT h9 hW2, sb, if_neg ne10, ag_n (by omega) (by omega), sb, ej, kl, e, if_pos rfl, eB, sb, e1, sb, e2, sb, ← hg, pg_n (by omega) (by omega), sb, ag_n (by omega) (by omega), sb, s1, sub_e (by omega) (by omega), ← hh, lt_def, pg_n (by omega) (by omega), sb, ag_n (by omega) (by omega), sb, s2, nI_1, pg_n (by omega) (by omega), sb, ag_n (by omega) (by omega), sb, s3, nI_1, pg_n (by omega) (by omega), sb, s4, pg_n (by omega) (by omega), sb, ag_n (by omega) (by omega), sb]
    show some (MC.1 62 j, MC) = _
    rw [s5]
  · unfold f_X12_say f_X12_says
    rw [r_isOut_i hw V1 N1 hj hj0, sb, if_neg ne10, r_isWord_i hw V1 hW2, sb, if_neg ne10, ag_n (by omega) (by omega), sb, li 46, ag_n (by omega) (by omega), sb, N1.1 j (by omega) (by omega), N1.2.1 hc, e, if_pos rfl, e5, sb, e6, sb, e7, sb, li 6, nI_add, ag_n (by omega) (by omega), sb, n7 (6 + j) (by omega) (by omega), li 999]
    show (((f_X12_within (nI (ρ (6 + j)) + nI (gwN F τ ρ j w)) 0 (nI 999)).bind _).bind _) = _
    rw [nI_add, r_within (by omega) (by omega), sb, eg, pg_n (by omega) (by omega), sb, li 36, nI_add, ag_n (by omega) (by omega), sb]
    show (((f_X12_within (D1.1 104 (36 + w) - nI (waN F τ ρ j w)) 0 (nI 99)).bind _).bind _) = _
    rw [d1, sub_w (by omega) (by omega) (by omega), sb, ← hh, pg_n (by omega) (by omega), sb, li 41, nI_add, ag_n (by omega) (by omega), sb]
    show ((pg D2 104 48 (nI (41 + w)) (D2.1 104 (41 + w) + 1)).bind _).bind _ = _
    rw [d2, nI_1, pg_n (by omega) (by omega), sb, li 18, nI_add, ag_n (by omega) (by omega), sb]
    show ((pg D3 104 48 (nI (18 + j)) (D3.1 104 (18 + j) + 1)).bind _).bind _ = _
    rw [d3, nI_1, pg_n (by omega) (by omega), sb, li 47, ag_n (by omega) (by omega), sb, li 24, nI_add]
    show ((pg D4 104 48 (nI (24 + j)) (D4.1 104 47)).bind _).bind _ = _
    rw [d4, pg_n (by omega) (by omega), sb, sb]
    show (f_X12_records MD).bind _ = _
    rw [eE, sb, ag_n (by omega) (by omega), sb, rE (6 + j) (by omega), nD.1 (6 + j) (by omega) (by omega), r6]

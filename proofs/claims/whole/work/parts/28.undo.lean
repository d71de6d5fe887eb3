-- 28.undo: pure: undo, tell
theorem s_undo {M : Mem} (R : Rel M) : OkB (f_X11_undo M) f_X12_undo := by
  obtain ⟨t, v, τ, ρ, F, R⟩ := R
  have R := R.stale
  unfold f_X11_undo
  rw [lt_def]
  have e48 : (sI M 48 2 1).1 48 2 = 1 := sI_same
  generalize sI M 48 2 1 = M at R e48
  have hw := R.1
  obtain ⟨q, x, hq, hx, q0, q4, q60, hr⟩ := R.2.2.2.2.2.2.2.1
  by_cases h0 : q = 0
  · subst h0
    refine ⟨0, M, M, ?_, ?_, t, v, τ, ρ, F, R⟩
    · unfold f_X4_takeBack
      rw [q0, if_pos nI_0, sb, zc_0]
    · unfold f_X12_undo
      rw [q60, if_pos nI_0]
  · obtain ⟨ρ', b1, b2, b3⟩ := hr (q - 1) (by omega)
    have ez : (x + 40 - q + (q - 1)) % 40 = (x + 39) % 40 := by omega
    rw [ez] at b2
    let A : Mem := sI (sI M 57 0 (nI (q - 1))) 57 4 (nI ((x + 39) % 40))
    let M1 : Mem := bkM A 58 (38 * ((x + 39) % 40))
    let M2 : Mem := cpM (sI M1 67 60 (nI (q - 1))) 108 103 (48 * (q - 1)) 0 48
    have hz : (x + 39) % 40 < 40 := Nat.mod_lt _ (by omega)
    refine ⟨1, M1, M2, ?_, ?_, ?_⟩
    · unfold f_X4_takeBack
      have e4 : (sI M 57 0 (nI (q - 1))).1 57 4 = nI x := by rw [sI_ix (by decide)]; exact q4
      have e5 : (nI (x + 40 - 1)) - nI (x + 40 - 1) / nI 40 * nI 40 = nI ((x + 39) % 40) := by
        rw [pk_div (by omega) (by omega) (by omega), pk_mul, pk_sub (by omega), show x + 40 - 1 - (x + 40 - 1) / 40 * 40 = (x + 39) % 40 by omega]
      have eA : A.1 57 4 = nI ((x + 39) % 40) := sI_same
      rw [q0, if_neg (nI_ne0 (by omega) (by omega)), li 1, pk_sub (by omega), lt_def, e4, li 40, nI_add, pk_sub (by omega), e5, lt_def]
      show ((f_X4_writeBack 58 1520 (A.1 57 4) 60 A).bind _).bind _ = _
      rw [eA, c_back (by omega) (by omega) (by omega), sb, sb]
      exact zc_1
    · have e60 : M1.1 67 60 = nI q := by
        refine (congrFun ((bk_cell (by omega)).trans ((sI_cell (by decide)).trans (sI_cell (by decide)))) 60).trans q60
      have e61 : (sI M1 67 60 (nI (q - 1))).1 67 60 = nI (q - 1) := sI_same
      unfold f_X12_undo
      rw [e60, if_neg (nI_ne0 (by omega) (by omega)), li 1, pk_sub (by omega), lt_def, show (0 : Int32) = 0 from rfl, ru_L (by omega) e61, sb]
    · have k : KpX [57, 60, 61, 62, 63, 64, 65, 66, 103] [60] M M2 := KpX.tr (KpX.tr (KpX.tr (KpX.tr (KpX.set (by decide) (by decide)) (KpX.set (by decide) (by decide))) (KpX.bk (by decide))) (KpX.fld (by decide))) (KpX.cpy (by decide) (by decide))
      have c57 : M2.1 57 = A.1 57 := (cp_cell (by decide)).trans ((sI_cell (by decide)).trans (bk_cell (by omega)))
      have f1 : M2.1 57 1 = M.1 57 1 := by
        rw [c57]
        exact (sI_ix (by decide)).trans (sI_ix (by decide))
      have c58 : M2.1 58 = M.1 58 := k.1 58 (by decide) (by decide)
      have c108 : M2.1 108 = M.1 108 := k.1 108 (by decide) (by decide)
      have cN : ∀ c, 60 ≤ c → c ≤ 66 → M2.1 c = (bkM A 58 (38 * ((x + 39) % 40))).1 c := fun c h1 h2 => (cp_cell (by omega)).trans (sI_cell (by omega))
      have bA : RC 58 (38 * ((x + 39) % 40)) τ ρ' A := b2.kp ((sI_cell (by decide)).trans (sI_cell (by decide)))
      have nc : NC 60 t τ ρ' M2 := by
        have := NC.bk (t := t) hw bA (by omega) R.2.2.2.2.1.2.1
        unfold NC at this ⊢
        rw [cN 60 (by omega) (by omega), cN (60 + 1) (by omega) (by omega), cN (60 + 2) (by omega) (by omega), cN (60 + 3) (by omega) (by omega), cN (60 + 4) (by omega) (by omega), cN (60 + 5) (by omega) (by omega), cN (60 + 6) (by omega) (by omega)]
        exact this
      have nr : NR 103 τ ρ' M2 := NR.to b3 (fun k hk => by
        show (cpM (sI M1 67 60 (nI (q - 1))) 108 103 (48 * (q - 1)) 0 48).1 103 k = _
        rw [cp1, if_pos ⟨rfl, by omega, by omega⟩, Nat.sub_zero]
        exact congrFun ((sI_cell (by decide)).trans ((bk_cell (by omega)).trans ((sI_cell (by decide)).trans (sI_cell (by decide))))) _)
      have pa : PastR τ M2 := by
        refine ⟨q - 1, (x + 39) % 40, by omega, hz, ?_, ?_, ?_, fun j hj => ?_⟩
        · rw [c57]
          exact (sI_ix (by decide)).trans sI_same
        · rw [c57]
          exact sI_same
        · exact (congrFun (cp_cell (by decide)) 60).trans sI_same
        · obtain ⟨ρ2, d1, d2, d3⟩ := hr j (by omega)
          refine ⟨ρ2, d1, ?_, d3.kp c108⟩
          rw [show ((x + 39) % 40 + 40 - (q - 1) + j) % 40 = (x + 40 - q + j) % 40 by omega]
          exact d2.kp c58
      exact ⟨t, v, τ, ρ', F, R.kx (ρ' := ρ') k (by decide) (by decide) (by decide) (by decide) b1 nc nr pa (R.2.2.2.2.2.2.2.2.1.of f1 (k.1 59 (by decide) (by decide)) (k.1 116 (by decide) (by decide)) (k.1 117 (by decide) (by decide))) (R.2.2.2.2.2.2.2.2.2.1.kx k (by decide) (by decide)) (R.2.2.2.2.2.2.2.2.2.2.1.kx k (by decide) (by decide)) (Or.inl (by rw [k.1 48 (by decide) (by decide)]; exact e48))⟩
theorem c_isOut {t v : Nat} {τ : Nat → Nat → Nat} {ρ : Nat → Nat} {F : Nat → (Nat → Int32) → Int32} {M : Mem} (R : RelP t v τ ρ F M) (x : Int32) : (f_X11_isOut x M = some 0 ∧ f_X12_isOut x M = some 0) ∨ ∃ j, j < tY τ ∧ x = nI j ∧ ρ (12 + j) = 0 ∧ f_X11_isOut x M = some 1 ∧ f_X12_isOut x M = some 1 := by
  obtain ⟨hw, wn, hT, hV, hN, hM, h7, -⟩ := R
  have hY : tY τ ≤ 6 := hw.2.2.1
  unfold f_X11_isOut f_X12_isOut
  rcases ar_in x (n := tY τ) (by omega) with h | ⟨j, hj, rfl⟩
  · left
    rw [c_isYoung_o hT h7.1 h, sb, if_pos rfl, r_isYoung_o hw hV h, sb, if_pos rfl]
    exact ⟨rfl, rfl⟩
  · have hb := (wn.2.1 j (by omega)).2.1
    rw [c_isYoung_i hw hT h7.1 hj, sb, if_neg ne10, r_isYoung_i hw hV hj, sb, if_neg ne10, c_home hN wn (by omega), sb, li 12, nI_add, ag_n (by omega) (by omega), sb, hM.1 (12 + j) (by omega) (by omega)]
    by_cases e : ρ (12 + j) = 0
    · right
      refine ⟨j, hj, rfl, e, ?_, ?_⟩
      · rw [show hmB ρ j = false by simp [hmB, e], if_neg Bool.false_ne_true, if_pos rfl]
      · rw [e, if_pos nI_0]
    · left
      have e1 : ρ (12 + j) = 1 := by omega
      refine ⟨?_, ?_⟩
      · rw [show hmB ρ j = true by simp [hmB, e1], if_pos rfl, if_neg ne10]
      · rw [if_neg (nI_ne0 (by omega) (by omega))]
theorem r_isOut_i {v : Nat} {τ : Nat → Nat → Nat} {ρ : Nat → Nat} {M : Mem} (hw : wfT τ) (hV : TR v τ M) (hM : NR 103 τ ρ M) {j : Nat} (hj : j < tY τ) (e : ρ (12 + j) = 0) : f_X12_isOut (nI j) M = some 1 := by
  have hY : tY τ ≤ 6 := hw.2.2.1
  unfold f_X12_isOut
  rw [r_isYoung_i hw hV hj, sb, if_neg ne10, li 12, nI_add, ag_n (by omega) (by omega), sb, hM.1 (12 + j) (by omega) (by omega), e, if_pos nI_0]
theorem glow_in (x : Int32) : f_X11_isGlow x = f_X12_in x 0 999 := rfl
theorem s_tell {M : Mem} (R : Rel M) (x1 x2 x3 : Int32) (h3 : x3 = 0 ∨ x3 = 1) : OkB (f_X11_tell x1 x2 x3 M) (f_X12_tell x1 x2 x3) := by
  have R0 := R
  obtain ⟨t, v, τ, ρ, F, R⟩ := R
  have hw := R.1
  have hY : tY τ ≤ 6 := hw.2.2.1
  obtain ⟨k, hk, k1, k2, k3⟩ := R.2.2.2.2.2.2.2.2.2.1
  have bad : f_X11_tell x1 x2 x3 M = some (-1, M) → f_X12_tell x1 x2 x3 M = some (-1, M) → OkB (f_X11_tell x1 x2 x3 M) (f_X12_tell x1 x2 x3) := fun a b => ⟨-1, M, M, a, b, R0⟩
  rcases c_isOut R x1 with ⟨o1, o2⟩ | ⟨j, hj, rfl, hj0, o1, o2⟩
  · apply bad
    · unfold f_X11_tell
      rw [o1, sb, if_pos rfl]
    · unfold f_X12_tell
      rw [o2, sb, if_pos rfl, ite_self]
  rcases ar_in x2 (n := 1000) (by omega) with h | ⟨g, hg, rfl⟩
  · have e : f_X12_in x2 0 999 = some 0 := in_o (n := 1000) (by omega) h
    apply bad
    · unfold f_X11_tell
      rw [o1, sb, if_neg ne10, glow_in, e, sb, if_pos rfl]
    · unfold f_X12_tell
      rw [o2, sb, if_neg ne10, e, sb, if_pos rfl, ite_self]
  have e : f_X12_in (nI g) 0 999 = some 1 := in_i (n := 1000) hg (by omega)
  by_cases h20 : k = 20
  · apply bad
    · unfold f_X11_tell
      rw [o1, sb, if_neg ne10, glow_in, e, sb, if_neg ne10, k1, li 20, if_neg (nI_nlt' (nI_le (by omega) (by omega)))]
    · unfold f_X12_tell
      rw [k2, h20, if_pos (li 20).symm]
  obtain ⟨b, hb, rfl⟩ : ∃ b : Nat, b ≤ 1 ∧ x3 = nI b := by
    rcases h3 with rfl | rfl
    · exact ⟨0, by omega, rfl⟩
    · exact ⟨1, by omega, rfl⟩
  have eb1 : (if nI b = 0 then (0 : Int32) else 1) = nI b := by
    rcases (by omega : b = 0 ∨ b = 1) with rfl | rfl <;> decide
  have eb2 : vp_nar .boolean (nI b) = nI b := by
    rcases (by omega : b = 0 ∨ b = 1) with rfl | rfl <;> rfl
  have e1 : nI (k + 1) - nI 1 = nI k := pk_sub (by omega)
  let M1 : Mem := sI (sI (sI (sI M 54 k (nI j)) 55 k (nI g)) 56 k (nI b)) 53 0 (nI (k + 1))
  let M2 : Mem := sI (sI (sI (sI M1 113 k (nI j)) 114 k (nI g)) 115 k (nI b)) 67 66 (nI (k + 1))
  have kk1 : KpX [53, 54, 55, 56, 113, 114, 115] [66] M M1 := KpX.tr (KpX.tr (KpX.tr (KpX.set (by decide) (by decide)) (KpX.set (by decide) (by decide))) (KpX.set (by decide) (by decide))) (KpX.set (by decide) (by decide))
  have kk2 : KpX [53, 54, 55, 56, 113, 114, 115] [66] M M2 := KpX.tr (KpX.tr (KpX.tr (KpX.tr kk1 (KpX.set (by decide) (by decide))) (KpX.set (by decide) (by decide))) (KpX.set (by decide) (by decide))) (KpX.fld (by decide))
  refine ⟨nI k, M1, M2, ?_, ?_, ?_⟩
  · have q1 : (sI M 54 k (nI j)).1 53 0 = nI k := (congrFun (sI_cell (by decide)) 0).trans k1
    have q2 : (sI (sI M 54 k (nI j)) 55 k (nI g)).1 53 0 = nI k := (congrFun (sI_cell (by decide)) 0).trans q1
    have q3 : (sI (sI (sI M 54 k (nI j)) 55 k (nI g)) 56 k (nI b)).1 53 0 = nI k := (congrFun (sI_cell (by decide)) 0).trans q2
    have q4 : M1.1 53 0 = nI (k + 1) := sI_same
    unfold f_X11_tell f_X1_note
    rw [o1, sb, if_neg ne10, glow_in, e, sb, if_neg ne10, k1, li 20, if_pos (nI_lt' (by omega) (by omega)), if_neg (nI_ge (by omega) (by omega)), pg_n (by omega) (by omega), sb, q1, pg_n (by omega) (by omega), sb, eb1, lt_def, q2, pg_n (by omega) (by omega), sb, q3, li 1, nI_add, lt_def, sb]
    show some (M1.1 53 0 - nI 1, M1) = _
    rw [q4, e1]
  · have V1 : TR v τ M1 := R.2.2.2.1.kx kk1 (by decide) (by decide)
    have N1 : NR 103 τ ρ M1 := R.2.2.2.2.2.1.kx kk1 (by decide)
    have c67 : M1.1 67 66 = nI k := (congrFun ((sI_cell (by decide)).trans ((sI_cell (by decide)).trans ((sI_cell (by decide)).trans (sI_cell (by decide)))) : M1.1 67 = M.1 67) 66).trans k2
    have q1 : (sI M1 113 k (nI j)).1 67 66 = nI k := (congrFun (sI_cell (by decide)) 66).trans c67
    have q2 : (sI (sI M1 113 k (nI j)) 114 k (nI g)).1 67 66 = nI k := (congrFun (sI_cell (by decide)) 66).trans q1
    have q3 : (sI (sI (sI M1 113 k (nI j)) 114 k (nI g)) 115 k (nI b)).1 67 66 = nI k := (congrFun (sI_cell (by decide)) 66).trans q2
    have q4 : M2.1 67 66 = nI (k + 1) := sI_same
    unfold f_X12_tell
    rw [c67, li 20, if_neg (fun z => h20 (nI_inj (by omega) (by omega) z)), r_isOut_i hw V1 N1 hj hj0, sb, if_neg ne10, e, sb, if_neg ne10, pg_n (by omega) (by omega), sb, q1, pg_n (by omega) (by omega), sb, q2, pz_n (by omega) (by omega), sb, eb2, q3, li 1, nI_add, lt_def]
    show some (M2.1 67 66 - nI 1, M2) = _
    rw [q4, e1]
  · have d53 : M2.1 53 0 = nI (k + 1) := (congrFun ((sI_cell (by decide)).trans ((sI_cell (by decide)).trans ((sI_cell (by decide)).trans (sI_cell (by decide)))) : M2.1 53 = M1.1 53) 0).trans sI_same
    have d54 : M2.1 54 = (sI M 54 k (nI j)).1 54 := (sI_cell (by decide)).trans ((sI_cell (by decide)).trans ((sI_cell (by decide)).trans ((sI_cell (by decide)).trans ((sI_cell (by decide)).trans ((sI_cell (by decide)).trans (sI_cell (by decide)))))))
    have d55 : M2.1 55 = (sI (sI M 54 k (nI j)) 55 k (nI g)).1 55 := (sI_cell (by decide)).trans ((sI_cell (by decide)).trans ((sI_cell (by decide)).trans ((sI_cell (by decide)).trans ((sI_cell (by decide)).trans (sI_cell (by decide))))))
    have d56 : M2.1 56 = (sI (sI (sI M 54 k (nI j)) 55 k (nI g)) 56 k (nI b)).1 56 := (sI_cell (by decide)).trans ((sI_cell (by decide)).trans ((sI_cell (by decide)).trans ((sI_cell (by decide)).trans (sI_cell (by decide)))))
    have d113 : M2.1 113 = (sI M1 113 k (nI j)).1 113 := (sI_cell (by decide)).trans ((sI_cell (by decide)).trans (sI_cell (by decide)))
    have d114 : M2.1 114 = (sI (sI M1 113 k (nI j)) 114 k (nI g)).1 114 := (sI_cell (by decide)).trans (sI_cell (by decide))
    have d115 : M2.1 115 = (sI (sI (sI M1 113 k (nI j)) 114 k (nI g)) 115 k (nI b)).1 115 := sI_cell (by decide)
    refine R.kk kk2 ⟨k + 1, by omega, d53, sI_same, fun i hi => ?_⟩
    rw [d54, d55, d56, d113, d114, d115]
    by_cases ei : i = k
    · subst ei
      exact ⟨j, g, b, hj, by omega, hb, sI_same, sI_same, sI_same, sI_same, sI_same, sI_same⟩
    · obtain ⟨y, w, c, y1, y2, y3, y4, y5, y6, y7, y8, y9⟩ := k3 i (by omega)
      refine ⟨y, w, c, y1, y2, y3, ?_, ?_, ?_, ?_, ?_, ?_⟩
      · rw [sI_ix ei]; exact y4
      · rw [sI_ix ei]; exact (congrFun ((sI_cell (by decide)).trans ((sI_cell (by decide)).trans ((sI_cell (by decide)).trans (sI_cell (by decide)))) : M1.1 113 = M.1 113) i).trans y5
      · rw [sI_ix ei, sI_cell (by decide)]; exact y6
      · rw [sI_ix ei, sI_cell (by decide)]; exact (congrFun ((sI_cell (by decide)).trans ((sI_cell (by decide)).trans ((sI_cell (by decide)).trans (sI_cell (by decide)))) : M1.1 114 = M.1 114) i).trans y7
      · rw [sI_ix ei, sI_cell (by decide), sI_cell (by decide)]; exact y8
      · rw [sI_ix ei, sI_cell (by decide), sI_cell (by decide)]; exact (congrFun ((sI_cell (by decide)).trans ((sI_cell (by decide)).trans ((sI_cell (by decide)).trans (sI_cell (by decide)))) : M1.1 115 = M.1 115) i).trans y9

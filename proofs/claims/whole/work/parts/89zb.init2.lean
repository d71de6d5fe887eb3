-- 89zb.init2: pure: what the constructors leave, the reference's; both are alike then
section INR
variable {M : Mem}
def q7M (M : Mem) : Mem := nM (nM (nM (nM (nM (nM (nM (nM M 67) 68) 69) 70) 71) 72) 73) 74
def q51 (A : Mem) : Mem := nM (nM (nM (nM (nM (nM (nM (nM (nM (nM (nM (nM (nM (nM (nM (nM (nM (nM (nM (nM (nM (nM (nM (nM (nM (nM (nM (nM (nM (nM (nM (nM (nM (nM (nM (nM (nM (nM (nM (nM (nM (nM (nM A 75) 76) 77) 78) 79) 80) 81) 82) 83) 84) 85) 86) 87) 88) 89) 90) 91) 92) 93) 94) 95) 96) 97) 98) 99) 100) 101) 102) 103) 104) 105) 106) 107) 108) 109) 110) 111) 112) 113) 114) 115) 116) 117
theorem q7_e : EqO 68 74 (nM M 67) (q7M M) := (((((((EqO.nw (by omega) (by omega)).tr (EqO.nw (by omega) (by omega))).tr (EqO.nw (by omega) (by omega))).tr (EqO.nw (by omega) (by omega))).tr (EqO.nw (by omega) (by omega))).tr (EqO.nw (by omega) (by omega))).tr (EqO.nw (by omega) (by omega)))
set_option maxRecDepth 20000 in
theorem q51_e {A : Mem} : EqO 75 117 A (q51 A) := (((((((((((((((((((((((((((((((((((((((((((EqO.nw (by omega) (by omega)).tr (EqO.nw (by omega) (by omega))).tr (EqO.nw (by omega) (by omega))).tr (EqO.nw (by omega) (by omega))).tr (EqO.nw (by omega) (by omega))).tr (EqO.nw (by omega) (by omega))).tr (EqO.nw (by omega) (by omega))).tr (EqO.nw (by omega) (by omega))).tr (EqO.nw (by omega) (by omega))).tr (EqO.nw (by omega) (by omega))).tr (EqO.nw (by omega) (by omega))).tr (EqO.nw (by omega) (by omega))).tr (EqO.nw (by omega) (by omega))).tr (EqO.nw (by omega) (by omega))).tr (EqO.nw (by omega) (by omega))).tr (EqO.nw (by omega) (by omega))).tr (EqO.nw (by omega) (by omega))).tr (EqO.nw (by omega) (by omega))).tr (EqO.nw (by omega) (by omega))).tr (EqO.nw (by omega) (by omega))).tr (EqO.nw (by omega) (by omega))).tr (EqO.nw (by omega) (by omega))).tr (EqO.nw (by omega) (by omega))).tr (EqO.nw (by omega) (by omega))).tr (EqO.nw (by omega) (by omega))).tr (EqO.nw (by omega) (by omega))).tr (EqO.nw (by omega) (by omega))).tr (EqO.nw (by omega) (by omega))).tr (EqO.nw (by omega) (by omega))).tr (EqO.nw (by omega) (by omega))).tr (EqO.nw (by omega) (by omega))).tr (EqO.nw (by omega) (by omega))).tr (EqO.nw (by omega) (by omega))).tr (EqO.nw (by omega) (by omega))).tr (EqO.nw (by omega) (by omega))).tr (EqO.nw (by omega) (by omega))).tr (EqO.nw (by omega) (by omega))).tr (EqO.nw (by omega) (by omega))).tr (EqO.nw (by omega) (by omega))).tr (EqO.nw (by omega) (by omega))).tr (EqO.nw (by omega) (by omega))).tr (EqO.nw (by omega) (by omega))).tr (EqO.nw (by omega) (by omega)))
def q74 (M : Mem) : Mem := sJ (sJ (sJ (sJ (sJ (sJ (sJ (sJ (sJ (sJ (sJ (sJ (sJ (sJ (sJ (sJ (sJ (sJ (sJ (sJ (sJ (sJ (sJ M 74 0 51382989) 74 1 283616147) 74 2 13596964) 74 3 464134) 74 4 4782078315) 74 5 3967858) 74 6 12322792) 74 7 1900846) 74 8 174879964) 74 9 1808912405) 74 10 377761) 74 11 249) 74 12 399641) 74 13 107681) 74 14 161156) 74 15 923) 74 16 289903041) 74 17 464144) 74 18 10284818) 74 19 168984) 74 20 146957) 74 21 12387257) 74 22 404923
theorem q74_k : ∀ k, k < 23 → (q74 M).2.1 74 k = kwL.getD k 0 := fun k hk => by
  unfold q74
  rcases (by omega : k = 0 ∨ k = 1 ∨ k = 2 ∨ k = 3 ∨ k = 4 ∨ k = 5 ∨ k = 6 ∨ k = 7 ∨ k = 8 ∨ k = 9 ∨ k = 10 ∨ k = 11 ∨ k = 12 ∨ k = 13 ∨ k = 14 ∨ k = 15 ∨ k = 16 ∨ k = 17 ∨ k = 18 ∨ k = 19 ∨ k = 20 ∨ k = 21 ∨ k = 22) with h | h | h | h | h | h | h | h | h | h | h | h | h | h | h | h | h | h | h | h | h | h | h <;> subst h
  · exact ((sJ_ix (by decide)).trans ((sJ_ix (by decide)).trans ((sJ_ix (by decide)).trans ((sJ_ix (by decide)).trans ((sJ_ix (by decide)).trans ((sJ_ix (by decide)).trans ((sJ_ix (by decide)).trans ((sJ_ix (by decide)).trans ((sJ_ix (by decide)).trans ((sJ_ix (by decide)).trans ((sJ_ix (by decide)).trans ((sJ_ix (by decide)).trans ((sJ_ix (by decide)).trans ((sJ_ix (by decide)).trans ((sJ_ix (by decide)).trans ((sJ_ix (by decide)).trans ((sJ_ix (by decide)).trans ((sJ_ix (by decide)).trans ((sJ_ix (by decide)).trans ((sJ_ix (by decide)).trans ((sJ_ix (by decide)).trans ((sJ_ix (by decide)).trans sJ_same))))))))))))))))))))))
  · exact ((sJ_ix (by decide)).trans ((sJ_ix (by decide)).trans ((sJ_ix (by decide)).trans ((sJ_ix (by decide)).trans ((sJ_ix (by decide)).trans ((sJ_ix (by decide)).trans ((sJ_ix (by decide)).trans ((sJ_ix (by decide)).trans ((sJ_ix (by decide)).trans ((sJ_ix (by decide)).trans ((sJ_ix (by decide)).trans ((sJ_ix (by decide)).trans ((sJ_ix (by decide)).trans ((sJ_ix (by decide)).trans ((sJ_ix (by decide)).trans ((sJ_ix (by decide)).trans ((sJ_ix (by decide)).trans ((sJ_ix (by decide)).trans ((sJ_ix (by decide)).trans ((sJ_ix (by decide)).trans ((sJ_ix (by decide)).trans sJ_same)))))))))))))))))))))
  · exact ((sJ_ix (by decide)).trans ((sJ_ix (by decide)).trans ((sJ_ix (by decide)).trans ((sJ_ix (by decide)).trans ((sJ_ix (by decide)).trans ((sJ_ix (by decide)).trans ((sJ_ix (by decide)).trans ((sJ_ix (by decide)).trans ((sJ_ix (by decide)).trans ((sJ_ix (by decide)).trans ((sJ_ix (by decide)).trans ((sJ_ix (by decide)).trans ((sJ_ix (by decide)).trans ((sJ_ix (by decide)).trans ((sJ_ix (by decide)).trans ((sJ_ix (by decide)).trans ((sJ_ix (by decide)).trans ((sJ_ix (by decide)).trans ((sJ_ix (by decide)).trans ((sJ_ix (by decide)).trans sJ_same))))))))))))))))))))
  · exact ((sJ_ix (by decide)).trans ((sJ_ix (by decide)).trans ((sJ_ix (by decide)).trans ((sJ_ix (by decide)).trans ((sJ_ix (by decide)).trans ((sJ_ix (by decide)).trans ((sJ_ix (by decide)).trans ((sJ_ix (by decide)).trans ((sJ_ix (by decide)).trans ((sJ_ix (by decide)).trans ((sJ_ix (by decide)).trans ((sJ_ix (by decide)).trans ((sJ_ix (by decide)).trans ((sJ_ix (by decide)).trans ((sJ_ix (by decide)).trans ((sJ_ix (by decide)).trans ((sJ_ix (by decide)).trans ((sJ_ix (by decide)).trans ((sJ_ix (by decide)).trans sJ_same)))))))))))))))))))
  · exact ((sJ_ix (by decide)).trans ((sJ_ix (by decide)).trans ((sJ_ix (by decide)).trans ((sJ_ix (by decide)).trans ((sJ_ix (by decide)).trans ((sJ_ix (by decide)).trans ((sJ_ix (by decide)).trans ((sJ_ix (by decide)).trans ((sJ_ix (by decide)).trans ((sJ_ix (by decide)).trans ((sJ_ix (by decide)).trans ((sJ_ix (by decide)).trans ((sJ_ix (by decide)).trans ((sJ_ix (by decide)).trans ((sJ_ix (by decide)).trans ((sJ_ix (by decide)).trans ((sJ_ix (by decide)).trans ((sJ_ix (by decide)).trans sJ_same))))))))))))))))))
  · exact ((sJ_ix (by decide)).trans ((sJ_ix (by decide)).trans ((sJ_ix (by decide)).trans ((sJ_ix (by decide)).trans ((sJ_ix (by decide)).trans ((sJ_ix (by decide)).trans ((sJ_ix (by decide)).trans ((sJ_ix (by decide)).trans ((sJ_ix (by decide)).trans ((sJ_ix (by decide)).trans ((sJ_ix (by decide)).trans ((sJ_ix (by decide)).trans ((sJ_ix (by decide)).trans ((sJ_ix (by decide)).trans ((sJ_ix (by decide)).trans ((sJ_ix (by decide)).trans ((sJ_ix (by decide)).trans sJ_same)))))))))))))))))
  · exact ((sJ_ix (by decide)).trans ((sJ_ix (by decide)).trans ((sJ_ix (by decide)).trans ((sJ_ix (by decide)).trans ((sJ_ix (by decide)).trans ((sJ_ix (by decide)).trans ((sJ_ix (by decide)).trans ((sJ_ix (by decide)).trans ((sJ_ix (by decide)).trans ((sJ_ix (by decide)).trans ((sJ_ix (by decide)).trans ((sJ_ix (by decide)).trans ((sJ_ix (by decide)).trans ((sJ_ix (by decide)).trans ((sJ_ix (by decide)).trans ((sJ_ix (by decide)).trans sJ_same))))))))))))))))
  · exact ((sJ_ix (by decide)).trans ((sJ_ix (by decide)).trans ((sJ_ix (by decide)).trans ((sJ_ix (by decide)).trans ((sJ_ix (by decide)).trans ((sJ_ix (by decide)).trans ((sJ_ix (by decide)).trans ((sJ_ix (by decide)).trans ((sJ_ix (by decide)).trans ((sJ_ix (by decide)).trans ((sJ_ix (by decide)).trans ((sJ_ix (by decide)).trans ((sJ_ix (by decide)).trans ((sJ_ix (by decide)).trans ((sJ_ix (by decide)).trans sJ_same)))))))))))))))
  · exact ((sJ_ix (by decide)).trans ((sJ_ix (by decide)).trans ((sJ_ix (by decide)).trans ((sJ_ix (by decide)).trans ((sJ_ix (by decide)).trans ((sJ_ix (by decide)).trans ((sJ_ix (by decide)).trans ((sJ_ix (by decide)).trans ((sJ_ix (by decide)).trans ((sJ_ix (by decide)).trans ((sJ_ix (by decide)).trans ((sJ_ix (by decide)).trans ((sJ_ix (by decide)).trans ((sJ_ix (by decide)).trans sJ_same))))))))))))))
  · exact ((sJ_ix (by decide)).trans ((sJ_ix (by decide)).trans ((sJ_ix (by decide)).trans ((sJ_ix (by decide)).trans ((sJ_ix (by decide)).trans ((sJ_ix (by decide)).trans ((sJ_ix (by decide)).trans ((sJ_ix (by decide)).trans ((sJ_ix (by decide)).trans ((sJ_ix (by decide)).trans ((sJ_ix (by decide)).trans ((sJ_ix (by decide)).trans ((sJ_ix (by decide)).trans sJ_same)))))))))))))
  · exact ((sJ_ix (by decide)).trans ((sJ_ix (by decide)).trans ((sJ_ix (by decide)).trans ((sJ_ix (by decide)).trans ((sJ_ix (by decide)).trans ((sJ_ix (by decide)).trans ((sJ_ix (by decide)).trans ((sJ_ix (by decide)).trans ((sJ_ix (by decide)).trans ((sJ_ix (by decide)).trans ((sJ_ix (by decide)).trans ((sJ_ix (by decide)).trans sJ_same))))))))))))
  · exact ((sJ_ix (by decide)).trans ((sJ_ix (by decide)).trans ((sJ_ix (by decide)).trans ((sJ_ix (by decide)).trans ((sJ_ix (by decide)).trans ((sJ_ix (by decide)).trans ((sJ_ix (by decide)).trans ((sJ_ix (by decide)).trans ((sJ_ix (by decide)).trans ((sJ_ix (by decide)).trans ((sJ_ix (by decide)).trans sJ_same)))))))))))
  · exact ((sJ_ix (by decide)).trans ((sJ_ix (by decide)).trans ((sJ_ix (by decide)).trans ((sJ_ix (by decide)).trans ((sJ_ix (by decide)).trans ((sJ_ix (by decide)).trans ((sJ_ix (by decide)).trans ((sJ_ix (by decide)).trans ((sJ_ix (by decide)).trans ((sJ_ix (by decide)).trans sJ_same))))))))))
  · exact ((sJ_ix (by decide)).trans ((sJ_ix (by decide)).trans ((sJ_ix (by decide)).trans ((sJ_ix (by decide)).trans ((sJ_ix (by decide)).trans ((sJ_ix (by decide)).trans ((sJ_ix (by decide)).trans ((sJ_ix (by decide)).trans ((sJ_ix (by decide)).trans sJ_same)))))))))
  · exact ((sJ_ix (by decide)).trans ((sJ_ix (by decide)).trans ((sJ_ix (by decide)).trans ((sJ_ix (by decide)).trans ((sJ_ix (by decide)).trans ((sJ_ix (by decide)).trans ((sJ_ix (by decide)).trans ((sJ_ix (by decide)).trans sJ_same))))))))
  · exact ((sJ_ix (by decide)).trans ((sJ_ix (by decide)).trans ((sJ_ix (by decide)).trans ((sJ_ix (by decide)).trans ((sJ_ix (by decide)).trans ((sJ_ix (by decide)).trans ((sJ_ix (by decide)).trans sJ_same)))))))
  · exact ((sJ_ix (by decide)).trans ((sJ_ix (by decide)).trans ((sJ_ix (by decide)).trans ((sJ_ix (by decide)).trans ((sJ_ix (by decide)).trans ((sJ_ix (by decide)).trans sJ_same))))))
  · exact ((sJ_ix (by decide)).trans ((sJ_ix (by decide)).trans ((sJ_ix (by decide)).trans ((sJ_ix (by decide)).trans ((sJ_ix (by decide)).trans sJ_same)))))
  · exact ((sJ_ix (by decide)).trans ((sJ_ix (by decide)).trans ((sJ_ix (by decide)).trans ((sJ_ix (by decide)).trans sJ_same))))
  · exact ((sJ_ix (by decide)).trans ((sJ_ix (by decide)).trans ((sJ_ix (by decide)).trans sJ_same)))
  · exact ((sJ_ix (by decide)).trans ((sJ_ix (by decide)).trans sJ_same))
  · exact ((sJ_ix (by decide)).trans sJ_same)
  · exact sJ_same
theorem sJ_i (a i : Nat) (x : Int64) : (sJ M a i x).1 = M.1 := rfl
theorem q74_1 : (q74 M).1 = M.1 := by
  unfold q74
  rw [sJ_i, sJ_i, sJ_i, sJ_i, sJ_i, sJ_i, sJ_i, sJ_i, sJ_i, sJ_i, sJ_i, sJ_i, sJ_i, sJ_i, sJ_i, sJ_i, sJ_i, sJ_i, sJ_i, sJ_i, sJ_i, sJ_i, sJ_i]
theorem q74_o {a : Nat} (h : a ≠ 74) : (q74 M).2.1 a = M.2.1 a := by
  unfold q74
  exact ((sJ_cell h).trans ((sJ_cell h).trans ((sJ_cell h).trans ((sJ_cell h).trans ((sJ_cell h).trans ((sJ_cell h).trans ((sJ_cell h).trans ((sJ_cell h).trans ((sJ_cell h).trans ((sJ_cell h).trans ((sJ_cell h).trans ((sJ_cell h).trans ((sJ_cell h).trans ((sJ_cell h).trans ((sJ_cell h).trans ((sJ_cell h).trans ((sJ_cell h).trans ((sJ_cell h).trans ((sJ_cell h).trans ((sJ_cell h).trans ((sJ_cell h).trans ((sJ_cell h).trans (sJ_cell h)))))))))))))))))))))))
theorem wd_0 : f_X12_word 99 111 114 110 101 114 0 = some 51382989 := by decide +kernel
theorem wd_1 : f_X12_word 115 116 114 101 101 116 0 = some 283616147 := by decide +kernel
theorem wd_2 : f_X12_word 121 111 117 110 103 0 0 = some 13596964 := by decide +kernel
theorem wd_3 : f_X12_word 119 111 114 100 0 0 0 = some 464134 := by decide +kernel
theorem wd_4 : f_X12_word 108 105 103 104 116 101 114 = some 4782078315 := by decide +kernel
theorem wd_5 : f_X12_word 103 108 111 119 115 0 0 = some 3967858 := by decide +kernel
theorem wd_6 : f_X12_word 119 101 97 114 115 0 0 = some 12322792 := by decide +kernel
theorem wd_7 : f_X12_word 99 111 111 108 115 0 0 = some 1900846 := by decide +kernel
theorem wd_8 : f_X12_word 108 101 97 118 101 115 0 = some 174879964 := by decide +kernel
theorem wd_9 : f_X12_word 100 114 97 117 103 104 116 = some 1808912405 := by decide +kernel
theorem wd_10 : f_X12_word 115 101 101 100 0 0 0 = some 377761 := by decide +kernel
theorem wd_11 : f_X12_word 105 102 0 0 0 0 0 = some 249 := by decide +kernel
theorem wd_12 : f_X12_word 116 104 101 110 0 0 0 = some 399641 := by decide +kernel
theorem wd_13 : f_X12_word 101 108 115 101 0 0 0 = some 107681 := by decide +kernel
theorem wd_14 : f_X12_word 104 101 97 116 0 0 0 = some 161156 := by decide +kernel
theorem wd_15 : f_X12_word 97 103 101 0 0 0 0 = some 923 := by decide +kernel
theorem wd_16 : f_X12_word 116 101 109 112 101 114 0 = some 289903041 := by decide +kernel
theorem wd_17 : f_X12_word 119 111 114 110 0 0 0 = some 464144 := by decide +kernel
theorem wd_18 : f_X12_word 115 105 110 99 101 0 0 = some 10284818 := by decide +kernel
theorem wd_19 : f_X12_word 104 111 117 114 0 0 0 = some 168984 := by decide +kernel
theorem wd_20 : f_X12_word 103 108 111 119 0 0 0 = some 146957 := by decide +kernel
theorem wd_21 : f_X12_word 119 104 105 99 104 0 0 = some 12387257 := by decide +kernel
theorem wd_22 : f_X12_word 116 111 108 100 0 0 0 = some 404923 := by decide +kernel
set_option maxRecDepth 20000 in
theorem cf67_ok : ∃ M', cf_67 (nM M 67) = some M' ∧ (∀ a, a < 67 → M'.1 a = M.1 a ∧ M'.2.2 a = M.2.2 a) ∧ M'.2.1 28 = M.2.1 28 ∧ (∀ k, k < 23 → M'.2.1 74 k = kwL.getD k 0) ∧ M'.1 67 17 = -1 ∧ (∀ i, i ≠ 17 → i ≠ 55 → i ≠ 56 → M'.1 67 i = 0) ∧ (∀ j, M'.1 116 j = 0) ∧ CNm 0 (fun _ _ => 0) M' ∧ PCm 0 (fun _ _ => 0) M' ∧ (∀ k, k < 4 → M'.1 91 (4 * 0 + k) = 0 ∧ M'.1 92 (4 * 0 + k) = 0) ∧ NR 103 (fun _ _ => 0) (rhN (fun _ _ => 0)) M' := by
  let A8 := sI (q7M M) 67 17 (-1)
  let A := q51 A8
  obtain ⟨P0, e0, f0, z0, y0, l0, s0⟩ := r_plain (v := 0) (M := A) (by omega)
  obtain ⟨P1, e1, f1, z1, y1, l1, s1⟩ := r_plain (v := 1) (M := P0) (by omega)
  have e0' : f_X12_plain 0 A = some P0 := e0
  have e1' : f_X12_plain 1 P0 = some P1 := e1
  have cl : ∀ a, a < 77 → P1.1 a = A.1 a := fun a h => (l1 a h).trans (l0 a h)
  have a67 : ∀ i, i ≠ 17 → A.1 67 i = 0 := fun i h => by
    have : A.1 67 = A8.1 67 := (q51_e 67 (by omega)).1
    rw [this, show A8.1 67 i = (q7M M).1 67 i from sI_ix h, (q7_e 67 (by omega)).1, nM_z]
  have a17 : A.1 67 17 = -1 := by
    have : A.1 67 = A8.1 67 := (q51_e 67 (by omega)).1
    rw [this]
    exact sI_same
  have sd : ∀ a i, sdR 0 a i → P1.1 a i = P0.1 a i := fun a i h => f1.2.2.1 a i h
  have C : CNm 0 (fun _ _ => 0) (q74 P1) := ⟨(sd 77 0 (Or.inl ⟨by omega, rfl⟩)).trans (z0 77 (by omega)), (sd 78 0 (Or.inl ⟨by omega, rfl⟩)).trans (z0 78 (by omega)), (sd 82 0 (Or.inl ⟨by omega, rfl⟩)).trans (z0 82 (by omega)), (sd 86 0 (Or.inl ⟨by omega, rfl⟩)).trans (z0 86 (by omega))⟩
  have P : PCm 0 (fun _ _ => 0) (q74 P1) := ⟨(sd 88 0 (Or.inl ⟨by omega, rfl⟩)).trans (z0 88 (by omega)), (sd 89 0 (Or.inl ⟨by omega, rfl⟩)).trans (z0 89 (by omega)), (sd 90 0 (Or.inl ⟨by omega, rfl⟩)).trans (z0 90 (by omega)), fun s hs => absurd hs (show ¬ s < 0 by omega), fun y hy => absurd hy (show ¬ y < 0 by omega), fun u hu => absurd hu (show ¬ u < 0 by omega)⟩
  obtain ⟨B1, B2, b1, b2, c1, c2, c3, c4⟩ := r_begN (M := q74 P1) (v := 0) (τ := fun _ _ => 0) (by omega) ((congrFun (cl 67 (by omega)) 18).trans (a67 18 (by decide))) C P (show 0 ≤ 7 by omega) (show 0 ≤ 6 by omega) (show 0 ≤ 5 by omega)
  have q : PQm (q74 P1) B2 := fun a p q => c1 a (by omega) (by omega) (by omega)
  have low : ∀ a, a < 67 → B2.1 a = M.1 a ∧ B2.2.2 a = M.2.2 a ∧ B2.2.1 28 = M.2.1 28 := fun a h => by
    have x1 := q51_e (A := A8) a (by omega)
    have x2 := q7_e (M := M) a (by omega)
    have x3 : (nM M 67).1 a = M.1 a ∧ (nM M 67).2.1 a = M.2.1 a ∧ (nM M 67).2.2 a = M.2.2 a := nM_o (by omega)
    have w1 := q51_e (A := A8) 28 (by omega)
    have w2 := q7_e (M := M) 28 (by omega)
    have w3 : (nM M 67).1 28 = M.1 28 ∧ (nM M 67).2.1 28 = M.2.1 28 ∧ (nM M 67).2.2 28 = M.2.2 28 := nM_o (by decide)
    refine ⟨?_, ?_, ?_⟩
    · rw [c1 a (by omega) (by omega) (by omega)]
      exact (cl a (by omega)).trans (x1.1.trans ((sI_cell (by omega)).trans (x2.1.trans x3.1)))
    · rw [c3]
      show P1.2.2 a = _
      rw [s1, s0]
      exact x1.2.2.trans (x2.2.2.trans x3.2.2)
    · rw [c3, q74_o (by decide), s1, s0]
      exact w1.2.1.trans (w2.2.1.trans w3.2.1)
  refine ⟨B2, ?_, fun a h => ⟨(low a h).1, (low a h).2.1⟩, (low 0 (by omega)).2.2, fun k hk => by rw [c3]; exact q74_k k hk, ?_, fun i p r u => ?_, fun j => ?_, C.q q, P.q q, fun k hk => ?_, c4⟩
  · unfold cf_67
    rw [lt_def, lt_def, lt_def, lt_def, lt_def, lt_def, lt_def, lt_def, lt_def, lt_def, lt_def, lt_def, lt_def, lt_def, lt_def, lt_def, lt_def, lt_def, lt_def, lt_def, lt_def, lt_def, lt_def, lt_def, lt_def, lt_def, lt_def, lt_def, lt_def, lt_def, lt_def, lt_def, lt_def, lt_def, lt_def, lt_def, lt_def, lt_def, lt_def, lt_def, lt_def, lt_def, lt_def, lt_def, lt_def, lt_def, lt_def, lt_def, lt_def, lt_def, lt_def]
    show (f_X12_plain 0 A).bind _ = _
    rw [e0', sb, e1', sb, wd_0, sb, lt_def, wd_1, sb, lt_def, wd_2, sb, lt_def, wd_3, sb, lt_def, wd_4, sb, lt_def, wd_5, sb, lt_def, wd_6, sb, lt_def, wd_7, sb, lt_def, wd_8, sb, lt_def, wd_9, sb, lt_def, wd_10, sb, lt_def, wd_11, sb, lt_def, wd_12, sb, lt_def, wd_13, sb, lt_def, wd_14, sb, lt_def, wd_15, sb, lt_def, wd_16, sb, lt_def, wd_17, sb, lt_def, wd_18, sb, lt_def, wd_19, sb, lt_def, wd_20, sb, lt_def, wd_21, sb, lt_def, wd_22, sb, lt_def]
    show (f_X12_begins (q74 P1)).bind _ = _
    rw [b1, sb, b2, sb]
  · rw [c2 17 (by decide) (by decide)]
    exact (congrFun (cl 67 (by omega)) 17).trans a17
  · rw [c2 i r u]
    exact (congrFun (cl 67 (by omega)) i).trans (a67 i p)
  · rw [c1 116 (by decide) (by decide) (by decide)]
    show P1.1 116 j = 0
    rw [f1.1 116 (by decide) (by decide), f0.1 116 (by decide) (by decide)]
    show (q51 A8).1 116 j = 0
    unfold q51
    rw [(nM_o (by decide)).1, nM_z]
  · have e : ∀ a, a = 91 ∨ a = 92 → B2.1 a (4 * 0 + k) = P0.1 a (4 * 0 + k) := fun a h => by
      rw [c1 a (by omega) (by omega) (by omega), q74_1]
      have hs : sdR 0 a (4 * 0 + k) := by
        unfold sdR lwR
        omega
      exact sd a (4 * 0 + k) hs
    rw [e 91 (by omega), e 92 (by omega)]
    exact y0 k hk
theorem rh_00 (k : Nat) : rhN (fun _ _ => 0) k = 0 := by
  unfold rhN
  split
  · rfl
  · split
    · rfl
    · split <;> rfl
/-- both have begun: they are alike -/
theorem rel_0 : ∃ M1 M2, cf_0 (nM M 0) = some M1 ∧ cf_67 (nM M1 67) = some M2 ∧ Rel M2 := by
  obtain ⟨M1, e1, r1, p1, t9, tj, tL, k28, p48, r60, z1⟩ := cf0_ok (M := M)
  obtain ⟨M2, e2, low, j28, k74, p17, zi, z116, C, P, Lw, NR0⟩ := cf67_ok (M := M1)
  have X := wf_00.2.2.2 rfl
  have cc : ∀ a, a < 67 → M2.1 a = M1.1 a := fun a h => (low a h).1
  have zz : ∀ a, a = 21 ∨ a = 53 ∨ a = 57 ∨ (60 ≤ a ∧ a ≤ 66) → ∀ j, M2.1 a j = 0 := fun a h j => by
    rw [cc a (by omega)]
    exact z1 a h j
  have f18 : M2.1 67 18 = nI 0 := zi 18 (by decide) (by decide) (by decide)
  have okL : ∀ k, okB ((fun _ => [] : Nat → List (Cd × Cd × Cd)) k) (dfC k) := wf_00.2.1
  refine ⟨M1, M2, e1, e2, 1, 0, fun _ _ => 0, rhN (fun _ _ => 0), fun k u => lwE u [] (dfC k), ⟨show 0 ≤ 7 by omega, show 0 ≤ 10 by omega, show 0 ≤ 6 by omega, show 0 ≤ 5 by omega, show 0 ≤ 100 by omega, show 0 ≤ 9999 by omega, fun s hs => absurd hs (show ¬ s < 0 by omega)⟩, wfN_00 (show 0 ≤ 7 by omega) (show 0 ≤ 6 by omega) (show 0 ≤ 5 by omega) X, ?_, ?_, ?_, NR0, ?_, ?_, ?_, ?_, ?_, ?_, ⟨lawF_of okL, ?_, ?_⟩, ?_, ?_⟩
  · have e : ∀ j, 10 ≤ j → j ≤ 16 → M2.1 1 j = nI 0 := fun j p q => by
      rw [cc 1 (by decide)]
      exact tj j p q
    exact ⟨Or.inl rfl, e 10 (by omega) (by omega), e 11 (by omega) (by omega), e 12 (by omega) (by omega), e 13 (by omega) (by omega), e 15 (by omega) (by omega), e 16 (by omega) (by omega), fun s hs => absurd hs (show ¬ s < 0 by omega), fun y hy => absurd hy (show ¬ y < 0 by omega)⟩
  · exact ⟨by omega, f18, C.1, C.2.1, C.2.2.1, C.2.2.2, P.2.1, P.2.2.1, P.2.2.2.1, fun y hy => absurd hy (show ¬ y < 0 by omega)⟩
  · have m0 : ∀ p : Nat → Bool, (∀ k, p k = false) → mskN p 6 = 0 := fun p h => msk_z (fun k _ => h k)
    refine ⟨Or.inr rfl, ?_, ?_, fun h => absurd h (show ¬ 0 < 0 by omega), ?_, ?_, fun y hy => absurd hy (show ¬ y < 0 by omega), fun y hy => ?_, fun w hw => ?_⟩
    · rw [(low 60 (by decide)).2]; exact r60
    · rw [rh_00]; exact zz 60 (by omega) 1
    · rw [m0 _ (fun k => by unfold hmB; rw [rh_00]; rfl)]; exact zz 60 (by omega) 3
    · rw [m0 _ (fun k => by unfold rgB; rw [rh_00]; rfl)]; exact zz 60 (by omega) 4
    · rw [rh_00, rh_00, rh_00]; exact ⟨zz 62 (by omega) y, zz 63 (by omega) y, zz 64 (by omega) y⟩
    · rw [rh_00, rh_00]; exact ⟨zz 65 (by omega) w, zz 66 (by omega) w⟩
  · rw [(low 0 (by decide)).2]; exact r1
  · exact ⟨0, 0, by omega, by omega, zz 57 (by omega) 0, zz 57 (by omega) 4, zi 60 (by decide) (by decide) (by decide), fun j hj => absurd hj (by omega)⟩
  · exact ⟨fun _ => false, zz 57 (by omega) 1, fun s hs => ⟨z116 s, fun z => by cases z⟩⟩
  · exact ⟨0, by omega, zz 53 (by omega) 0, zi 66 (by decide) (by decide) (by decide), fun i hi => absurd hi (by omega)⟩
  · exact ⟨0, by omega, zz 21 (by omega) 1, zi 2 (by decide) (by decide) (by decide), fun i hi => absurd hi (by omega)⟩
  · rw [cc 0 (by decide), p1, p17]
  · refine lawC_of (B := fun _ => []) (W := dfC) (T := 6) (Or.inl rfl) okL (by rw [cc 1 (by decide)]; exact t9) (by omega) (fun k hk => ?_)
    obtain ⟨st, o1, o2, o3⟩ := (tL.q (M' := M2) (fun k hk => cc (1 + k) (by omega))) k hk
    exact ⟨st, o1, o3, o2⟩
  · exact lawM_of (B := fun _ => []) (W := dfC) (v := 0) (by omega) f18 okL (fun k hk => Or.inr ⟨by rw [(Lw k hk).1, (Lw k hk).2], rfl, rfl⟩)
  · left
    rw [cc 48 (by decide)]; exact p48
  · refine ⟨fun k hk => ?_, fun i j h h' => ?_⟩
    · rw [j28, k74 k hk]; exact k28 k hk
    · rw [k74 i (by omega), k74 j h']
      exact kw_ne i (by omega) j h' h
end INR

-- 24.easy: pure: tests of arguments, and the calls that only read
/-- the class answers without a change, the reference changes scratch only -/
def OkA (c : Option Int32) (r : Option (Int32 × Mem)) : Prop := ∃ x M2, c = some x ∧ r = some (x, M2) ∧ Rel M2
def OkB (c : Option (Int32 × Mem)) (r : Mem → Option (Int32 × Mem)) : Prop := ∃ x M1 M2, c = some (x, M1) ∧ r M1 = some (x, M2) ∧ Rel M2
def OkC (c r : Option Int32) : Prop := ∃ x, c = some x ∧ r = some x
theorem ne10 : ¬ (1 : Int32) = 0 := by decide
theorem n1_toInt {n : Nat} (hn : n < 100000) : (nI n - 1).toInt = (n : Int) - 1 := pk_sub_toInt (a := n) (b := 1) (by omega) (by omega)
theorem in_o {x : Int32} {n : Nat} (hn : n < 100000) (h : x < 0 ∨ nI n ≤ x) : f_X12_in x 0 (nI n - 1) = some 0 := by
  unfold f_X12_in
  by_cases h0 : x < 0
  · rw [if_pos h0]
  · rcases h with h | h
    · exact absurd h h0
    · have h2 : nI n - 1 < x := by
        apply Int32.lt_iff_toInt_lt.mpr
        have := Int32.le_iff_toInt_le.mp h
        rw [nI_toInt (by omega)] at this
        rw [n1_toInt hn]
        omega
      rw [if_neg h0, if_pos h2]
theorem in_i {j n : Nat} (hj : j < n) (hn : n < 100000) : f_X12_in (nI j) 0 (nI n - 1) = some 1 := by
  have h0 : ¬ nI j < 0 := nI_pos (by omega)
  have h1 : ¬ nI n - 1 < nI j := by
    intro h
    have := Int32.lt_iff_toInt_lt.mp h
    rw [nI_toInt (by omega), n1_toInt hn] at this
    omega
  unfold f_X12_in
  rw [if_neg h0, if_neg h1]
theorem cin_o {x : Int32} {n : Nat} (h : x < 0 ∨ nI n ≤ x) {α : Type} {a b : α} : (if x < 0 then a else if nI n ≤ x then a else b) = a := by
  by_cases h0 : x < 0
  · rw [if_pos h0]
  · rw [if_neg h0, if_pos (h.resolve_left h0)]
section ISX
variable {t v : Nat} {τ : Nat → Nat → Nat} {M : Mem}
theorem c_isCorner_o (hT : TC t τ M) (h9 : M.2.2 0 9 = some t) {x : Int32} (h : x < 0 ∨ nI (tC τ) ≤ x) : f_X11_isCorner x M = some 0 := by
  unfold f_X11_isCorner
  rw [rT_n h9 hT.1, sb, hT.2.1]
  exact cin_o h
theorem c_isCorner_i (hw : wfT τ) (hT : TC t τ M) (h9 : M.2.2 0 9 = some t) {j : Nat} (h : j < tC τ) : f_X11_isCorner (nI j) M = some 1 := by
  have hb : tC τ ≤ 7 := hw.1
  unfold f_X11_isCorner
  rw [rT_n h9 hT.1, sb, hT.2.1, if_neg (nI_pos (by omega)), if_neg (nI_ge h (by omega))]
theorem r_isCorner_o (hw : wfT τ) (hT : TR v τ M) {x : Int32} (h : x < 0 ∨ nI (tC τ) ≤ x) : f_X12_isCorner x M = some 0 := by
  have hb : tC τ ≤ 7 := hw.1
  have hv : v ≤ 1 := hT.1
  unfold f_X12_isCorner
  rw [hT.2.1, ag_n (by omega) (by omega), sb, hT.2.2.1, in_o (by omega) h, sb, zc_0]
theorem r_isCorner_i (hw : wfT τ) (hT : TR v τ M) {j : Nat} (h : j < tC τ) : f_X12_isCorner (nI j) M = some 1 := by
  have hb : tC τ ≤ 7 := hw.1
  have hv : v ≤ 1 := hT.1
  unfold f_X12_isCorner
  rw [hT.2.1, ag_n (by omega) (by omega), sb, hT.2.2.1, in_i h (by omega), sb, zc_1]
theorem c_isStreet_o (hT : TC t τ M) (h9 : M.2.2 0 9 = some t) {x : Int32} (h : x < 0 ∨ nI (tS τ) ≤ x) : f_X11_isStreet x M = some 0 := by
  unfold f_X11_isStreet
  rw [rT_n h9 hT.1, sb, hT.2.2.1]
  exact cin_o h
theorem c_isStreet_i (hw : wfT τ) (hT : TC t τ M) (h9 : M.2.2 0 9 = some t) {j : Nat} (h : j < tS τ) : f_X11_isStreet (nI j) M = some 1 := by
  have hb : tS τ ≤ 10 := hw.2.1
  unfold f_X11_isStreet
  rw [rT_n h9 hT.1, sb, hT.2.2.1, if_neg (nI_pos (by omega)), if_neg (nI_ge h (by omega))]
theorem r_isStreet_o (hw : wfT τ) (hT : TR v τ M) {x : Int32} (h : x < 0 ∨ nI (tS τ) ≤ x) : f_X12_isStreet x M = some 0 := by
  have hb : tS τ ≤ 10 := hw.2.1
  have hv : v ≤ 1 := hT.1
  unfold f_X12_isStreet
  rw [hT.2.1, ag_n (by omega) (by omega), sb, hT.2.2.2.1, in_o (by omega) h, sb, zc_0]
theorem r_isStreet_i (hw : wfT τ) (hT : TR v τ M) {j : Nat} (h : j < tS τ) : f_X12_isStreet (nI j) M = some 1 := by
  have hb : tS τ ≤ 10 := hw.2.1
  have hv : v ≤ 1 := hT.1
  unfold f_X12_isStreet
  rw [hT.2.1, ag_n (by omega) (by omega), sb, hT.2.2.2.1, in_i h (by omega), sb, zc_1]
theorem c_isYoung_o (hT : TC t τ M) (h9 : M.2.2 0 9 = some t) {x : Int32} (h : x < 0 ∨ nI (tY τ) ≤ x) : f_X11_isYoung x M = some 0 := by
  unfold f_X11_isYoung
  rw [rT_n h9 hT.1, sb, hT.2.2.2.1]
  exact cin_o h
theorem c_isYoung_i (hw : wfT τ) (hT : TC t τ M) (h9 : M.2.2 0 9 = some t) {j : Nat} (h : j < tY τ) : f_X11_isYoung (nI j) M = some 1 := by
  have hb : tY τ ≤ 6 := hw.2.2.1
  unfold f_X11_isYoung
  rw [rT_n h9 hT.1, sb, hT.2.2.2.1, if_neg (nI_pos (by omega)), if_neg (nI_ge h (by omega))]
theorem r_isYoung_o (hw : wfT τ) (hT : TR v τ M) {x : Int32} (h : x < 0 ∨ nI (tY τ) ≤ x) : f_X12_isYoung x M = some 0 := by
  have hb : tY τ ≤ 6 := hw.2.2.1
  have hv : v ≤ 1 := hT.1
  unfold f_X12_isYoung
  rw [hT.2.1, ag_n (by omega) (by omega), sb, hT.2.2.2.2.1, in_o (by omega) h, sb, zc_0]
theorem r_isYoung_i (hw : wfT τ) (hT : TR v τ M) {j : Nat} (h : j < tY τ) : f_X12_isYoung (nI j) M = some 1 := by
  have hb : tY τ ≤ 6 := hw.2.2.1
  have hv : v ≤ 1 := hT.1
  unfold f_X12_isYoung
  rw [hT.2.1, ag_n (by omega) (by omega), sb, hT.2.2.2.2.1, in_i h (by omega), sb, zc_1]
theorem c_isWord_o (hT : TC t τ M) (h9 : M.2.2 0 9 = some t) {x : Int32} (h : x < 0 ∨ nI (tW τ) ≤ x) : f_X11_isWord x M = some 0 := by
  unfold f_X11_isWord
  rw [rT_n h9 hT.1, sb, hT.2.2.2.2.1]
  exact cin_o h
theorem c_isWord_i (hw : wfT τ) (hT : TC t τ M) (h9 : M.2.2 0 9 = some t) {j : Nat} (h : j < tW τ) : f_X11_isWord (nI j) M = some 1 := by
  have hb : tW τ ≤ 5 := hw.2.2.2.1
  unfold f_X11_isWord
  rw [rT_n h9 hT.1, sb, hT.2.2.2.2.1, if_neg (nI_pos (by omega)), if_neg (nI_ge h (by omega))]
theorem r_isWord_o (hw : wfT τ) (hT : TR v τ M) {x : Int32} (h : x < 0 ∨ nI (tW τ) ≤ x) : f_X12_isWord x M = some 0 := by
  have hb : tW τ ≤ 5 := hw.2.2.2.1
  have hv : v ≤ 1 := hT.1
  unfold f_X12_isWord
  rw [hT.2.1, ag_n (by omega) (by omega), sb, hT.2.2.2.2.2.1, in_o (by omega) h, sb, zc_0]
theorem r_isWord_i (hw : wfT τ) (hT : TR v τ M) {j : Nat} (h : j < tW τ) : f_X12_isWord (nI j) M = some 1 := by
  have hb : tW τ ≤ 5 := hw.2.2.2.1
  have hv : v ≤ 1 := hT.1
  unfold f_X12_isWord
  rw [hT.2.1, ag_n (by omega) (by omega), sb, hT.2.2.2.2.2.1, in_i h (by omega), sb, zc_1]
def endB (τ : Nat → Nat → Nat) (c s : Nat) : Bool := τ 1 s == c || τ 2 s == c
theorem c_streets (hw : wfT τ) (hT : TC t τ M) {c : Nat} (hc : c < 100) : f_X9_streetsOf t (nI c) M = some (nI (mskN (endB τ c) (tS τ))) := by
  have hS : tS τ ≤ 10 := hw.2.1
  have hC : tC τ ≤ 7 := hw.1
  have key : f_X9_streetsOf_L4 t FU (nI c) 0 0 M = some (nI (mskN (endB τ c) (tS τ))) := by
    refine loop0 (fun fu y => f_X9_streetsOf_L4 t fu (nI c) (nI (mskN (endB τ c) y)) (nI y) M) _ (tS τ) (by omega) (fun fu => ?_) (fun fu y hy => ?_)
    · show f_X9_streetsOf_L4 t (fu + 1) _ _ _ M = _
      rw [f_X9_streetsOf_L4, hT.2.2.1, if_pos (nI_le (Nat.le_refl _) (by omega))]
    · show f_X9_streetsOf_L4 t (fu + 1) _ _ _ M = f_X9_streetsOf_L4 t fu _ _ _ M
      obtain ⟨h1, h2, -⟩ := hT.2.2.2.2.2.2.2.1 y hy
      obtain ⟨q1, q2, -⟩ := hw.2.2.2.2.2.2 y hy
      rw [f_X9_streetsOf_L4, hT.2.2.1, if_neg (nI_ge hy (by omega)), ag_n (by omega) (by omega), sb, h1, ag_n (by omega) (by omega), sb, h2, mskN_s]
      by_cases e1 : τ 1 y = c
      · rw [if_pos (by rw [e1]), show endB τ c y = true by simp [endB, e1], lt_def, lt_def, nI_1, msk_or (by omega)]; rfl
      · rw [if_neg (fun z => e1 (nI_inj (by omega) (by omega) z))]
        by_cases e2 : τ 2 y = c
        · rw [if_pos (by rw [e2]), show endB τ c y = true by simp [endB, e2], lt_def, lt_def, nI_1, msk_or (by omega)]; rfl
        · rw [if_neg (fun z => e2 (nI_inj (by omega) (by omega) z)), show endB τ c y = false by simp [endB, e1, e2], lt_def, nI_1]; rfl
  unfold f_X9_streetsOf
  rw [key]
  rfl
theorem r_isEnd (hw : wfT τ) (hT : TR v τ M) {c s : Nat} (hc : c < 100) (hs : s < tS τ) : f_X12_isEnd (nI s) (nI c) M = some (if endB τ c s then 1 else 0) := by
  have hS : tS τ ≤ 10 := hw.2.1
  have hC : tC τ ≤ 7 := hw.1
  have hv : v ≤ 1 := hT.1
  obtain ⟨h1, h2, -⟩ := hT.2.2.2.2.2.2.2.2.1 s hs
  obtain ⟨q1, q2, -⟩ := hw.2.2.2.2.2.2 s hs
  unfold f_X12_isEnd
  rw [hT.2.1, li 10, pk_mul, nI_add, ag_n (by omega) (by omega), sb, h1, ag_n (by omega) (by omega), sb, h2]
  by_cases e1 : τ 1 s = c
  · rw [if_pos (by rw [e1]), show endB τ c s = true by simp [endB, e1]]; rfl
  · rw [if_neg (fun z => e1 (nI_inj (by omega) (by omega) z))]
    by_cases e2 : τ 2 s = c
    · rw [if_pos (by rw [e2]), show endB τ c s = true by simp [endB, e2]]; rfl
    · rw [if_neg (fun z => e2 (nI_inj (by omega) (by omega) z)), show endB τ c s = false by simp [endB, e1, e2]]; rfl
theorem r_streets (hw : wfT τ) (hT : TR v τ M) {c : Nat} (hc : c < 100) : f_X12_streetsAt (nI c) M = some (nI (mskN (endB τ c) (tS τ))) := by
  have hS : tS τ ≤ 10 := hw.2.1
  have hv : v ≤ 1 := hT.1
  have key : f_X12_streetsAt_L4 FU (nI c) 0 0 M = some (nI (mskN (endB τ c) (tS τ))) := by
    refine loop0 (fun fu y => f_X12_streetsAt_L4 fu (nI c) (nI (mskN (endB τ c) y)) (nI y) M) _ (tS τ) (by omega) (fun fu => ?_) (fun fu y hy => ?_)
    · show f_X12_streetsAt_L4 (fu + 1) _ _ _ M = _
      rw [f_X12_streetsAt_L4, hT.2.1, ag_n (by omega) (by omega), sb, hT.2.2.2.1, if_pos (nI_le (Nat.le_refl _) (by omega))]
    · show f_X12_streetsAt_L4 (fu + 1) _ _ _ M = f_X12_streetsAt_L4 fu _ _ _ M
      rw [f_X12_streetsAt_L4, hT.2.1, ag_n (by omega) (by omega), sb, hT.2.2.2.1, if_neg (nI_ge hy (by omega)), r_isEnd hw hT hc hy, sb, mskN_s]
      cases he : endB τ c y
      · rw [if_pos (by decide), lt_def, nI_1]; rfl
      · rw [if_neg (by decide), lt_def, lt_def, nI_1, msk_or (by omega)]; rfl
  unfold f_X12_streetsAt
  rw [key]
  rfl
end ISX
theorem s_place {M : Mem} (R : Rel M) : OkC (f_X11_place M) (f_X12_place M) := by
  obtain ⟨t, v, τ, ρ, F, h1, h2, h3, h4, h5, h6, h7, h8, h9, h10, h11, h12, h13⟩ := R
  exact ⟨_, rfl, by unfold f_X12_place; rw [h12]⟩
theorem s_corner {M : Mem} (R : Rel M) (x1 x2 : Int32) : OkA (f_X11_corner x1 x2 M) (f_X12_corner x1 x2 M) := by
  have RR := R
  obtain ⟨t, v, τ, ρ, F, hw, wn, hT, hV, hN, hM, h7, -⟩ := R
  have hC : tC τ ≤ 7 := hw.1
  rcases ar_in x1 (n := tC τ) (by omega) with h | ⟨j, hj, rfl⟩
  · unfold f_X11_corner f_X12_corner
    rw [c_isCorner_o hT h7.1 h, sb, if_pos rfl, r_isCorner_o hw hV h, sb, if_pos rfl]
    exact ⟨_, _, rfl, rfl, RR⟩
  · obtain ⟨M5, e5, fr, nr, -, -⟩ := r_copy hM hV
    have V5 := hV.fr fr (by decide)
    have R5 : Rel M5 := RR.kp (fr.kp (by decide))
    unfold f_X11_corner f_X12_corner
    rw [c_isCorner_i hw hT h7.1 hj, sb, if_neg ne10, r_isCorner_i hw hV hj, sb, if_neg ne10, e5, sb]
    by_cases h0 : x2 = 0
    · rw [if_pos h0, if_pos h0, c_light hw hT hN wn (by omega), sb, r_light hw V5 nr wn (by omega), sb]
      exact ⟨_, _, rfl, rfl, R5⟩
    rw [if_neg h0, if_neg h0]
    by_cases h1 : x2 = 1
    · rw [if_pos h1, if_pos h1, c_who hw hT hN wn (by omega), sb, r_who hw V5 nr wn (by omega), sb]
      exact ⟨_, _, rfl, rfl, R5⟩
    rw [if_neg h1, if_neg h1]
    by_cases h2 : x2 = 2
    · rw [if_pos h2, if_pos h2, hN.2.2.2.1 (by omega), li 46, ag_n (by omega) (by omega), sb, nr.2.1 (by omega)]
      by_cases e : nI (ρ 46) = nI j
      · rw [if_pos e, if_pos e]
        exact ⟨_, _, rfl, rfl, R5⟩
      · rw [if_neg e, if_neg e]
        exact ⟨_, _, rfl, rfl, R5⟩
    rw [if_neg h2, if_neg h2]
    by_cases h3 : x2 = 3
    · rw [if_pos h3, if_pos h3, rT_n h7.1 hT.1, sb, c_streets hw hT (by omega), sb, r_streets hw V5 (by omega), sb]
      exact ⟨_, _, rfl, rfl, R5⟩
    rw [if_neg h3, if_neg h3]
    exact ⟨_, _, rfl, rfl, R5⟩
theorem s_street {M : Mem} (R : Rel M) (x1 x2 : Int32) : OkA (f_X11_street x1 x2 M) (f_X12_street x1 x2 M) := by
  have RR := R
  obtain ⟨t, v, τ, ρ, F, hw, wn, hT, hV, hN, hM, h7, -⟩ := R
  have hS : tS τ ≤ 10 := hw.2.1
  have hv : v ≤ 1 := hV.1
  rcases ar_in x1 (n := tS τ) (by omega) with h | ⟨j, hj, rfl⟩
  · unfold f_X11_street f_X12_street
    rw [c_isStreet_o hT h7.1 h, sb, if_pos rfl, r_isStreet_o hw hV h, sb, if_pos rfl]
    exact ⟨_, _, rfl, rfl, RR⟩
  · obtain ⟨M5, e5, fr, nr, -, -⟩ := r_copy hM hV
    have V5 := hV.fr fr (by decide)
    have R5 : Rel M5 := RR.kp (fr.kp (by decide))
    obtain ⟨a1, a2, a3⟩ := hT.2.2.2.2.2.2.2.1 j hj
    obtain ⟨b1, b2, b3⟩ := V5.2.2.2.2.2.2.2.2.1 j hj
    unfold f_X11_street f_X12_street
    rw [c_isStreet_i hw hT h7.1 hj, sb, if_neg ne10, r_isStreet_i hw hV hj, sb, if_neg ne10, e5, sb, V5.2.1, li 10, pk_mul, nI_add]
    by_cases h0 : x2 = 0
    · rw [if_pos h0, if_pos h0, rT_n h7.1 hT.1, sb, ag_n (by omega) (by omega), sb, a1, ag_n (by omega) (by omega), sb, b1]
      exact ⟨_, _, rfl, rfl, R5⟩
    rw [if_neg h0, if_neg h0]
    by_cases h1 : x2 = 1
    · rw [if_pos h1, if_pos h1, rT_n h7.1 hT.1, sb, ag_n (by omega) (by omega), sb, a2, ag_n (by omega) (by omega), sb, b2]
      exact ⟨_, _, rfl, rfl, R5⟩
    rw [if_neg h1, if_neg h1]
    by_cases h2 : x2 = 2
    · rw [if_pos h2, if_pos h2, rT_n h7.1 hT.1, sb, ag_n (by omega) (by omega), sb, a3, ag_n (by omega) (by omega), sb, b3]
      exact ⟨_, _, rfl, rfl, R5⟩
    rw [if_neg h2, if_neg h2]
    have h99 : need τ ρ j ≤ 99 := by
      have := (hw.2.2.2.2.2.2 j hj).2.2.2.2
      unfold need
      omega
    by_cases h3 : x2 = 3
    · rw [if_pos h3, if_pos h3, c_lit hw hT hN wn hj, sb, r_need hw V5 nr wn hj, sb]
      by_cases e : need τ ρ j = 0
      · rw [e, if_pos nI_0, show litB τ ρ j = true by simp [litB, e], if_neg (by decide)]
        exact ⟨_, _, rfl, rfl, R5⟩
      · rw [if_neg (nI_ne0 (n := need τ ρ j) (by omega) (by omega)), show litB τ ρ j = false by simp [litB, e], if_pos (by decide)]
        exact ⟨_, _, rfl, rfl, R5⟩
    rw [if_neg h3, if_neg h3]
    by_cases h4 : x2 = 4
    · rw [if_pos h4, if_pos h4, c_need hw hT hN wn hj, sb, r_need hw V5 nr wn hj, sb]
      exact ⟨_, _, rfl, rfl, R5⟩
    rw [if_neg h4, if_neg h4]
    exact ⟨_, _, rfl, rfl, R5⟩
theorem s_word {M : Mem} (R : Rel M) (x1 x2 : Int32) : OkC (f_X11_word x1 x2 M) (f_X12_word_ x1 x2 M) := by
  obtain ⟨t, v, τ, ρ, F, hw, wn, hT, hV, hN, hM, h7, -⟩ := R
  have hW : tW τ ≤ 5 := hw.2.2.2.1
  rcases ar_in x1 (n := tW τ) (by omega) with h | ⟨j, hj, rfl⟩
  · unfold f_X11_word f_X12_word_
    rw [c_isWord_o hT h7.1 h, sb, if_pos rfl, r_isWord_o hw hV h, sb, if_pos rfl]
    exact ⟨_, rfl, rfl⟩
  · obtain ⟨a1, a2⟩ := hN.2.2.2.2.2.2.2.2 j (by omega)
    unfold f_X11_word f_X12_word_
    rw [c_isWord_i hw hT h7.1 hj, sb, if_neg ne10, r_isWord_i hw hV hj, sb, if_neg ne10]
    by_cases h0 : x2 = 0
    · subst h0
      have e : f_X12_in 0 0 1 = some 1 := by decide
      have e2 : (36 : Int32) + 5 * 0 = nI 36 := by decide
      rw [if_pos rfl, e, sb, if_neg ne10, e2, nI_add, ag_n (by omega) (by omega), sb, ag_n (by omega) (by omega), sb, a1, hM.1 (36 + j) (by omega) (by omega)]
      exact ⟨_, rfl, rfl⟩
    rw [if_neg h0]
    by_cases h1 : x2 = 1
    · subst h1
      have e : f_X12_in 1 0 1 = some 1 := by decide
      have e2 : (36 : Int32) + 5 * 1 = nI 41 := by decide
      rw [if_pos rfl, e, sb, if_neg ne10, e2, nI_add, ag_n (by omega) (by omega), sb, ag_n (by omega) (by omega), sb, a2, hM.1 (41 + j) (by omega) (by omega)]
      exact ⟨_, rfl, rfl⟩
    rw [if_neg h1]
    have e : f_X12_in x2 0 1 = some 0 := by
      have := in_o (x := x2) (n := 2) (by omega) (by
        rcases ar_in x2 (n := 2) (by omega) with h | ⟨q, hq, rfl⟩
        · exact h
        · rcases (by omega : q = 0 ∨ q = 1) with rfl | rfl
          · exact absurd rfl h0
          · exact absurd rfl h1)
      exact this
    rw [e, sb, if_pos rfl]
    exact ⟨_, rfl, rfl⟩

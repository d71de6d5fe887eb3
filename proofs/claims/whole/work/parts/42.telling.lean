-- 42.telling: pure: telling, keep
/-- the first of the greatest -/
def amx (f : Nat → Int32) : Nat → Nat
  | 0 => 0
  | n + 1 => if f (amx f n) < f n then n else amx f n
theorem amx_s (f : Nat → Int32) (n : Nat) : amx f (n + 1) = if f (amx f n) < f n then n else amx f n := rfl
theorem amx_lt {f : Nat → Int32} : ∀ {n : Nat}, 0 < n → amx f n < n
  | 0, h => absurd h (by omega)
  | 1, _ => by
    rw [amx_s]
    split <;> simp [amx]
  | n + 2, _ => by
    have := amx_lt (f := f) (n := n + 1) (by omega)
    rw [amx_s]
    split <;> omega
theorem amx_keep {f : Nat → Int32} {i : Int32} {w : Nat} (hi : i < f 0) (h : f w ≤ if w = 0 then i else f (amx f w)) : 0 < w ∧ amx f (w + 1) = amx f w := by
  by_cases h0 : w = 0
  · subst h0
    rw [if_pos rfl] at h
    exact absurd hi (Int32.not_lt.mpr h)
  · rw [if_neg h0] at h
    exact ⟨by omega, by rw [amx_s, if_neg (Int32.not_lt.mpr h)]⟩
theorem amx_take {f : Nat → Int32} {i : Int32} {w : Nat} (h : ¬ f w ≤ if w = 0 then i else f (amx f w)) : amx f (w + 1) = w := by
  by_cases h0 : w = 0
  · subst h0
    rw [amx_s]
    split <;> rfl
  · rw [if_neg h0] at h
    rw [amx_s, if_pos (Int32.not_le.mp h)]
section TLG
variable {n t v : Nat} {τ : Nat → Nat → Nat} {ρ : Nat → Nat} {F : Nat → (Nat → Int32) → Int32} {M : Mem}
theorem c_hottest {lw y : Nat} (C : CX n t τ ρ F M) (hL : isL lw) (hy : y < tY τ) : ∃ M', f_X2_hottestFor lw n (nI y) M = some (nI (amx (fun w => nI (wgN F τ ρ y w)) (tW τ)), M') ∧ FrD lwS M M' := by
  have hW : tW τ ≤ 5 := C.1.2.2.2.1
  obtain ⟨f, hf⟩ : ∃ f : Nat → Int32, f = fun w => nI (wgN F τ ρ y w) := ⟨_, rfl⟩
  have hi : (-1 : Int32) < f 0 := by
    rw [hf]
    have h9 := wgN_le (F := F) (τ := τ) (ρ := ρ) y 0
    exact Int32.lt_of_lt_of_le (by decide) (nI_pos' (by omega))
  rw [← hf]
  obtain ⟨a, e, q1, q2⟩ := loopQ (fun fu w (s : Int32 × Int32 × Mem) => f_X2_hottestFor_L8 lw n fu (nI y) s.1 s.2.1 (nI w) s.2.2) (fun w s => FrD lwS M s.2.2 ∧ s.1 = nI (amx f w) ∧ s.2.1 = if w = 0 then -1 else f (amx f w)) (fun a => a.1 = nI (amx f (tW τ)) ∧ FrD lwS M a.2) (tW τ) (by omega) (fun fu s hP => by
      have C' := C.fl hP.1
      refine ⟨(s.1, s.2.2), ?_, hP.2.1, hP.1⟩
      show f_X2_hottestFor_L8 lw n (fu + 1) _ _ _ _ _ = _
      rw [f_X2_hottestFor_L8, rT_n C'.2.2.2.1.2.1 C'.2.2.1.1, sb, C'.2.2.1.2.2.2.2.1, if_pos (nI_le (Nat.le_refl _) (by omega))]) (fun fu w s hw hP => by
      have C' := C.fl hP.1
      obtain ⟨M', e, f'⟩ := c_would C' hL hy hw
      have ef : nI (wgN F τ ρ y w) = f w := by rw [hf]
      right
      show ∃ s', f_X2_hottestFor_L8 lw n (fu + 1) _ _ _ _ _ = f_X2_hottestFor_L8 lw n fu _ _ _ _ _ ∧ _
      rw [f_X2_hottestFor_L8, rT_n C'.2.2.2.1.2.1 C'.2.2.1.1, sb, C'.2.2.1.2.2.2.2.1, if_neg (nI_ge hw (by omega)), e, sb, ef, lt_def, lt_def, nI_1]
      by_cases h : f w ≤ s.2.1
      · rw [if_pos h]
        rw [hP.2.2] at h
        have k := amx_keep hi h
        refine ⟨(s.1, s.2.1, M'), rfl, hP.1.tr f', ?_, ?_⟩
        · rw [k.2]; exact hP.2.1
        · rw [k.2, if_neg (by omega)]
          exact hP.2.2.trans (if_neg (by omega))
      · rw [if_neg h]
        rw [hP.2.2] at h
        have k := amx_take h
        refine ⟨(nI w, f w, M'), rfl, hP.1.tr f', ?_, ?_⟩
        · rw [k]
        · rw [k, if_neg (by omega)]) (0, -1, M) ⟨FrD.rf, rfl, rfl⟩
  refine ⟨a.2, ?_, q2⟩
  unfold f_X2_hottestFor
  rw [show f_X2_hottestFor_L8 lw n FU (nI y) 0 (-1) 0 M = some a from e, sb, q1]
theorem c_lasting {lw y : Nat} (C : CX n t τ ρ F M) (hL : isL lw) (hy : y < tY τ) : ∃ M', f_X2_mostLasting lw n (nI y) M = some (nI (amx (fun w => nI (ρ (36 + w)) - nI (waN F τ ρ y w)) (tW τ)), M') ∧ FrD lwS M M' := by
  have hW : tW τ ≤ 5 := C.1.2.2.2.1
  obtain ⟨f, hf⟩ : ∃ f : Nat → Int32, f = fun w => nI (ρ (36 + w)) - nI (waN F τ ρ y w) := ⟨_, rfl⟩
  have hi : (-100 : Int32) < f 0 := by
    rw [hf]
    have h9 := waN_le (F := F) (τ := τ) (ρ := ρ) y 0
    have h8 := C.2.1.2.2.1 0 (by omega)
    apply Int32.lt_iff_toInt_lt.mpr
    rw [pk_sub_toInt (by omega) (by omega)]
    show (-100 : Int) < _
    omega
  rw [← hf]
  obtain ⟨a, e, q1, q2⟩ := loopQ (fun fu w (s : Int32 × Int32 × Mem) => f_X2_mostLasting_L9 lw n fu (nI y) s.1 s.2.1 (nI w) s.2.2) (fun w s => FrD lwS M s.2.2 ∧ s.1 = nI (amx f w) ∧ s.2.1 = if w = 0 then -100 else f (amx f w)) (fun a => a.1 = nI (amx f (tW τ)) ∧ FrD lwS M a.2) (tW τ) (by omega) (fun fu s hP => by
      have C' := C.fl hP.1
      refine ⟨(s.1, s.2.2), ?_, hP.2.1, hP.1⟩
      show f_X2_mostLasting_L9 lw n (fu + 1) _ _ _ _ _ = _
      rw [f_X2_mostLasting_L9, rT_n C'.2.2.2.1.2.1 C'.2.2.1.1, sb, C'.2.2.1.2.2.2.2.1, if_pos (nI_le (Nat.le_refl _) (by omega))]) (fun fu w s hw hP => by
      have C' := C.fl hP.1
      obtain ⟨M', e, f'⟩ := c_wears C' hL hy hw
      have ef : nI (ρ (36 + w)) - nI (waN F τ ρ y w) = f w := by rw [hf]
      right
      show ∃ s', f_X2_mostLasting_L9 lw n (fu + 1) _ _ _ _ _ = f_X2_mostLasting_L9 lw n fu _ _ _ _ _ ∧ _
      rw [f_X2_mostLasting_L9, rT_n C'.2.2.2.1.2.1 C'.2.2.1.1, sb, C'.2.2.1.2.2.2.2.1, if_neg (nI_ge hw (by omega)), ag_n (by omega) (by omega), sb, (C'.2.2.2.1.2.2.2.2.2.2.2.2 w (by omega)).1, e, sb, lt_def, ef, lt_def, lt_def, nI_1]
      by_cases h : f w ≤ s.2.1
      · rw [if_pos h]
        rw [hP.2.2] at h
        have k := amx_keep hi h
        refine ⟨(s.1, s.2.1, M'), rfl, hP.1.tr f', ?_, ?_⟩
        · rw [k.2]; exact hP.2.1
        · rw [k.2, if_neg (by omega)]
          exact hP.2.2.trans (if_neg (by omega))
      · rw [if_neg h]
        rw [hP.2.2] at h
        have k := amx_take h
        refine ⟨(nI w, f w, M'), rfl, hP.1.tr f', ?_, ?_⟩
        · rw [k]
        · rw [k, if_neg (by omega)]) (0, -100, M) ⟨FrD.rf, rfl, rfl⟩
  refine ⟨a.2, ?_, q2⟩
  unfold f_X2_mostLasting
  rw [show f_X2_mostLasting_L9 lw n FU (nI y) 0 (-100) 0 M = some a from e, sb, q1]
theorem r_telling {y : Nat} {x2 : Int32} (C : RX v τ ρ F M) (hy : y < tY τ) (h0 : ρ (12 + y) = 0) : ∃ M', f_X12_telling_L40 FU (nI y) x2 (-2) 0 M = some (if tW τ = 0 then -2 else nI (amx (fun w => nI (wgN F τ ρ y w)) (tW τ)), M') ∧ FrN [101, 102] M M' := by
  have hW : tW τ ≤ 5 := C.1.2.2.2.1
  have hv : v ≤ 1 := C.2.2.1.1
  obtain ⟨f, hf⟩ : ∃ f : Nat → Int32, f = fun w => nI (wgN F τ ρ y w) := ⟨_, rfl⟩
  have ef : ∀ w, nI (wgN F τ ρ y w) = f w := fun w => by rw [hf]
  rw [← hf]
  obtain ⟨a, e, q1, q2⟩ := loopQ (fun fu w (s : Int32 × Mem) => f_X12_telling_L40 fu (nI y) x2 s.1 (nI w) s.2) (fun w s => FrN [101, 102] M s.2 ∧ s.1 = if w = 0 then -2 else nI (amx f w)) (fun a => a.1 = (if tW τ = 0 then -2 else nI (amx f (tW τ))) ∧ FrN [101, 102] M a.2) (tW τ) (by omega) (fun fu s hP => by
      have C' := C.fr hP.1.m (by decide)
      refine ⟨s, ?_, hP.2, hP.1⟩
      show f_X12_telling_L40 (fu + 1) _ _ _ _ _ = _
      rw [f_X12_telling_L40, C'.2.2.1.2.1, ag_n (by omega) (by omega), sb, C'.2.2.1.2.2.2.2.2.1, if_pos (nI_le (Nat.le_refl _) (by omega))]) (fun fu w s hw hP => by
      have C' := C.fr hP.1.m (by decide)
      right
      show ∃ s', f_X12_telling_L40 (fu + 1) _ _ _ _ _ = f_X12_telling_L40 fu _ _ _ _ _ ∧ _
      rw [f_X12_telling_L40, C'.2.2.1.2.1, ag_n (by omega) (by omega), sb, C'.2.2.1.2.2.2.2.2.1, if_neg (nI_ge hw (by omega)), hP.2]
      by_cases hz : w = 0
      · rw [if_pos hz, if_pos (by decide), lt_def, nI_1]
        refine ⟨(nI w, s.2), rfl, hP.1, ?_⟩
        subst hz
        rw [if_neg (by omega), amx_s]
        split <;> rfl
      · have hm := amx_lt (f := f) (n := w) (by omega)
        obtain ⟨M1, e1, f1⟩ := r_glowBy C' hy hw h0
        have C1 := C'.fr f1.m (by decide)
        obtain ⟨M2, e2, f2⟩ := r_glowBy (w := amx f w) C1 hy (by omega) h0
        rw [if_neg hz, if_neg (nI_pos (by omega)), e1, sb, e2, sb, ef, ef, lt_def, lt_def, nI_1]
        by_cases h : f w ≤ f (amx f w)
        · rw [if_pos h]
          refine ⟨(nI (amx f w), M2), rfl, (hP.1.tr f1).tr f2, ?_⟩
          rw [if_neg (by omega), amx_s, if_neg (Int32.not_lt.mpr h)]
        · rw [if_neg h]
          refine ⟨(nI w, M2), rfl, (hP.1.tr f1).tr f2, ?_⟩
          rw [if_neg (by omega), amx_s, if_pos (Int32.not_le.mp h)]) (-2, M) ⟨FrN.rf, rfl⟩
  refine ⟨a.2, ?_, q2⟩
  rw [show f_X12_telling_L40 FU (nI y) x2 (-2) 0 M = some a from e, ← q1]
end TLG
theorem s_telling {M : Mem} (R : Rel M) (x1 x2 : Int32) : OkB (f_X11_telling x1 x2 M) (f_X12_telling x1 x2) := by
  have R0 := R
  obtain ⟨t, v, τ, ρ, F, R⟩ := R
  have hw := R.1
  have wn := R.2.1
  have hT : TC t τ M := R.2.2.1
  have hV : TR v τ M := R.2.2.2.1
  have hN : NC 60 t τ ρ M := R.2.2.2.2.1
  have hM : NR 103 τ ρ M := R.2.2.2.2.2.1
  have h9 : M.2.2 0 9 = some t := R.2.2.2.2.2.2.1.1
  have hY : tY τ ≤ 6 := hw.2.2.1
  have hW : tW τ ≤ 5 := hw.2.2.2.1
  rcases ar_in x1 (n := tY τ) (by omega) with h | ⟨j, hj, rfl⟩
  · refine ⟨-1, M, M, ?_, ?_, R0⟩
    · unfold f_X11_telling
      rw [c_isYoung_o hT h9 h, sb, if_pos rfl]
    · unfold f_X12_telling
      rw [r_isYoung_o hw hV h, sb, if_pos rfl]
  have hb := (wn.2.1 j (by omega)).2.1
  rcases eith x2 with ⟨h01, i1, i2⟩ | ⟨n0, n1, i1, i2⟩
  · by_cases e : ρ (12 + j) = 0
    · by_cases hz : tW τ = 0
      · obtain ⟨M5, e5, R5, X5, f5, -, -⟩ := R.rx
        obtain ⟨M6, e6, f6⟩ := r_telling (x2 := x2) X5 hj e
        rw [if_pos hz] at e6
        refine ⟨-2, M, M6, ?_, ?_, (R5.fm f6.m (by decide)).rel⟩
        · unfold f_X11_telling
          rw [c_isYoung_i hw hT h9 hj, sb, if_neg ne10, i2, sb, if_neg ne10, rT_n h9 hT.1, sb, hT.2.2.2.2.1, hz, if_pos nI_0]
        · unfold f_X12_telling
          rw [r_isYoung_i hw hV hj, sb, if_neg ne10, i1, sb, if_neg ne10, r_isOut_i hw hV hM hj e, sb, if_neg ne10, e5, sb, e6, sb, if_pos (show (-2 : Int32) < 0 by decide)]
      · have hm := amx_lt (f := fun w => nI (wgN F τ ρ j w)) (n := tW τ) (by omega)
        obtain ⟨M1, c1, f1⟩ := c_hottest R.cx isL_31 hj
        obtain ⟨M2, c2, f2⟩ := c_would (R.cx.fl f1) isL_31 hj hm
        have cc : f_X11_telling (nI j) x2 M = if x2 = 0 then some (nI (amx (fun w => nI (wgN F τ ρ j w)) (tW τ)), M1) else some (nI (wgN F τ ρ j (amx (fun w => nI (wgN F τ ρ j w)) (tW τ))), M2) := by
          unfold f_X11_telling
          rw [c_isYoung_i hw hT h9 hj, sb, if_neg ne10, i2, sb, if_neg ne10, rT_n h9 hT.1, sb, hT.2.2.2.2.1, if_neg (nI_ne0 (by omega) (by omega)), c_home hN wn (by omega), sb, hm_0 e, if_neg Bool.false_ne_true, if_pos rfl, c1, sb, c2, sb]
        rw [cc]
        rcases h01 with rfl | rfl
        · have R1 := R.fl f1
          obtain ⟨M5, e5, R5, X5, f5, -, -⟩ := R1.rx
          obtain ⟨M6, e6, f6⟩ := r_telling (x2 := 0) X5 hj e
          rw [if_neg hz] at e6
          refine ⟨_, M1, M6, if_pos rfl, ?_, (R5.fm f6.m (by decide)).rel⟩
          unfold f_X12_telling
          rw [r_isYoung_i hw R1.2.2.2.1 hj, sb, if_neg ne10, i1, sb, if_neg ne10, r_isOut_i hw R1.2.2.2.1 R1.2.2.2.2.2.1 hj e, sb, if_neg ne10, e5, sb, e6, sb, if_neg (nI_pos (by omega)), if_pos rfl]
        · have R1 := (R.fl f1).fl f2
          obtain ⟨M5, e5, R5, X5, f5, -, -⟩ := R1.rx
          obtain ⟨M6, e6, f6⟩ := r_telling (x2 := 1) X5 hj e
          rw [if_neg hz] at e6
          obtain ⟨M7, e7, f7⟩ := r_glowBy (X5.fr f6.m (by decide)) hj hm e
          refine ⟨_, M2, M7, if_neg ne10, ?_, ((R5.fm f6.m (by decide)).fm f7.m (by decide)).rel⟩
          unfold f_X12_telling
          rw [r_isYoung_i hw R1.2.2.2.1 hj, sb, if_neg ne10, i1, sb, if_neg ne10, r_isOut_i hw R1.2.2.2.1 R1.2.2.2.2.2.1 hj e, sb, if_neg ne10, e5, sb, e6, sb, if_neg (nI_pos (by omega)), if_neg ne10, e7, sb]
    · have e1 : ρ (12 + j) = 1 := by omega
      refine ⟨-2, M, M, ?_, ?_, R0⟩
      · unfold f_X11_telling
        rw [c_isYoung_i hw hT h9 hj, sb, if_neg ne10, i2, sb, if_neg ne10, rT_n h9 hT.1, sb, c_home hN wn (by omega), sb, hm_1 e1, if_pos rfl, if_neg ne10, ite_self]
      · unfold f_X12_telling f_X12_isOut
        rw [r_isYoung_i hw hV hj, sb, if_neg ne10, i1, sb, if_neg ne10, sb, if_neg ne10, li 12, nI_add, ag_n (by omega) (by omega), sb, hM.1 (12 + j) (by omega) (by omega), e1, if_neg (by decide), sb, if_pos rfl]
  · refine ⟨-1, M, M, ?_, ?_, R0⟩
    · unfold f_X11_telling
      rw [c_isYoung_i hw hT h9 hj, sb, if_neg ne10, i2, sb, if_pos rfl]
    · unfold f_X12_telling
      rw [r_isYoung_i hw hV hj, sb, if_neg ne10, i1, sb, if_pos rfl]

-- 67.best: pure: best
def lsO (ρ : Nat → Nat) : Nat → Option Nat
  | 0 => none
  | y + 1 => if ρ (6 + y) = 0 then lsO ρ y else some y
theorem ls_ok (ρ : Nat → Nat) : ∀ n, (lsO ρ n = none → ∀ y, y < n → ρ (6 + y) = 0) ∧ ∀ la, lsO ρ n = some la → la < n ∧ ∀ j, la < j → j < n → ρ (6 + j) = 0
  | 0 => ⟨fun _ y hy => absurd hy (by omega), fun la h => by cases h⟩
  | n + 1 => by
    have ih := ls_ok ρ n
    unfold lsO
    by_cases e : ρ (6 + n) = 0
    · rw [if_pos e]
      refine ⟨fun h y hy => ?_, fun la h => ?_⟩
      · by_cases ey : y = n
        · rw [ey]; exact e
        · exact ih.1 h y (by omega)
      · obtain ⟨h1, h2⟩ := ih.2 la h
        refine ⟨by omega, fun j j1 j2 => ?_⟩
        by_cases ey : j = n
        · rw [ey]; exact e
        · exact h2 j j1 (by omega)
    · rw [if_neg e]
      refine ⟨fun h => (by cases h), fun la h => ?_⟩
      cases h
      exact ⟨by omega, fun j j1 j2 => absurd j1 (by omega)⟩
section SRC
variable {F : Nat → (Nat → Int32) → Int32} {τ : Nat → Nat → Nat} {ρ tt : Nat → Nat} {t v b : Nat} {M : Mem}
theorem tg_0 (wn : wfN τ ρ) (G : tgT τ ρ tt 0) : ∀ n y, y < n → y < tY τ → tt y = 0
  | 0, y, h, _ => absurd h (by omega)
  | n + 1, y, h, hy => by
    by_cases e : y = n
    · subst e
      rcases Nat.lt_or_ge 0 (tt y) with q | q
      · exfalso
        have := G.2.2.2.2.2 (fun _ => 0) y (fun k hk => by show 0 < tC τ; have := wn.1 k hk; omega) hy (fun i hi => (tg_0 wn G y i hi (by omega)).symm) q
        omega
      · omega
    · exact tg_0 wn G n y (by omega) hy
theorem c_sum6 (hw : wfT τ) (wn : wfN τ ρ) (hT : TC t τ M) (hN : NC 60 t τ ρ M) (h6 : M.1 48 6 = -1) : ∃ M', f_X5_search_L27 60 FU 0 0 M = some (nI (gsN6 ρ (tY τ)), M') ∧ FrD [48] M M' ∧ M'.1 48 6 = oE (-1) (lsO ρ (tY τ)) ∧ ∀ i, i ≠ 6 → M'.1 48 i = M.1 48 i := by
  have hY : tY τ ≤ 6 := hw.2.2.1
  obtain ⟨A, eA, q1, q2, q3, q4⟩ := loopQ (fun fu y (s : Int32 × Mem) => f_X5_search_L27 60 fu s.1 (nI y) s.2) (fun y s => s.1 = nI (gsN6 ρ y) ∧ FrD [48] M s.2 ∧ s.2.1 48 6 = oE (-1) (lsO ρ y) ∧ ∀ i, i ≠ 6 → s.2.1 48 i = M.1 48 i) (fun s => s.1 = nI (gsN6 ρ (tY τ)) ∧ FrD [48] M s.2 ∧ s.2.1 48 6 = oE (-1) (lsO ρ (tY τ)) ∧ ∀ i, i ≠ 6 → s.2.1 48 i = M.1 48 i) (tY τ) (by omega) (fun fu s hP => by
      have T' : TC t τ s.2 := hT.of (fun a ha => hP.2.1.1 a (by simp; omega))
      have r0 : s.2.2.2 60 0 = some t := by rw [hP.2.1.2]; exact hN.2.1
      refine ⟨s, ?_, hP⟩
      show f_X5_search_L27 60 (fu + 1) _ _ _ = _
      rw [f_X5_search_L27, rT_n r0 T'.1, sb, T'.2.2.2.1, if_pos (nI_le (Nat.le_refl _) (by omega))]) (fun fu y s hy hP => by
      obtain ⟨p1, p2, p3, p4⟩ := hP
      have T' : TC t τ s.2 := hT.of (fun a ha => p2.1 a (by simp; omega))
      have r0 : s.2.2.2 60 0 = some t := by rw [p2.2]; exact hN.2.1
      have g0 : s.2.1 (60 + 2) y = nI (ρ (6 + y)) := by rw [p2.1 (60 + 2) (by decide)]; exact (hN.2.2.2.2.2.2.2.1 y (by omega)).1
      have g9 := (wn.2.1 y (by omega)).1
      have e6 : (if nI (ρ (6 + y)) ≤ 0 then s.2.1 48 6 else nI y) = oE (-1) (lsO ρ (y + 1)) := by
        show _ = oE (-1) (if ρ (6 + y) = 0 then lsO ρ y else some y)
        by_cases e : ρ (6 + y) = 0
        · rw [e, if_pos (by decide), if_pos rfl]; exact p3
        · rw [if_neg (nI_nle (by omega) (by omega)), if_neg e]; rfl
      right
      refine ⟨(nI (gsN6 ρ (y + 1)), sI s.2 48 6 (oE (-1) (lsO ρ (y + 1)))), ?_, rfl, p2.tr (FrD.set (by decide)), sI_same, fun i hi => (sI_ix hi).trans (p4 i hi)⟩
      show f_X5_search_L27 60 (fu + 1) _ _ _ = f_X5_search_L27 60 fu _ _ _
      rw [f_X5_search_L27, rT_n r0 T'.1, sb, T'.2.2.2.1, if_neg (nI_ge hy (by omega)), ag_n (by omega) (by omega), sb, g0, p1, nI_add, lt_def, sb, e6, lt_def, lt_def, lt_def, nI_1]
      rfl) (0, M) ⟨rfl, FrD.rf, h6, fun _ _ => rfl⟩
  refine ⟨A.2, ?_, q2, q3, q4⟩
  rw [show f_X5_search_L27 60 FU 0 0 M = some A from eA, ← q1]
theorem c_search {w : Nat → Nat} (R : RelP t v τ ρ F M) (B : isBest τ ρ b w) : ∃ M', f_X5_search 60 M = some M' ∧ RelP t v τ ρ F M' ∧ M'.1 48 1 = nI b ∧ ∀ y, y < tY τ → ρ (12 + y) = 0 → M'.1 49 y = nI (w y) := by
  have hw := R.1
  have wn := R.2.1
  have hY : tY τ ≤ 6 := hw.2.2.1
  have hC : tC τ ≤ 7 := hw.1
  have po : PostR τ ρ M := R.2.2.2.2.2.2.2.2.2.2.2.2.2.1
  rcases po with h2 | ⟨h2, b', w', B', e1, e2⟩
  case inr =>
    obtain ⟨hb, hu⟩ := best_u B B'
    refine ⟨M, ?_, R, by rw [e1, hb], fun y hy h0 => by rw [e2 y hy h0, hu y hy h0]⟩
    unfold f_X5_search
    rw [if_pos h2]
  have G := tg_of hw wn B
  let M2 : Mem := sI M 48 2 0
  let M3 : Mem := sI M2 48 1 0
  let M4 : Mem := sI M3 48 6 (-1)
  have T4 : TC t τ M4 := R.2.2.1.of (fun a ha => (sI_cell (by omega)).trans ((sI_cell (by omega)).trans (sI_cell (by omega))))
  have N4 : NC 60 t τ ρ M4 := R.2.2.2.2.1.of (fun a ha hb => (sI_cell (by omega)).trans ((sI_cell (by omega)).trans (sI_cell (by omega)))) rfl
  obtain ⟨M5, e5, f5, h56, h5i⟩ := c_sum6 hw wn T4 N4 sI_same
  let M6 : Mem := wrM M5 50 0 (fun _ => 0) 7
  let M7 : Mem := wrM M6 52 0 (fun _ => 0) 6
  let M8 : Mem := wrM M7 49 0 (fun _ => 0) 6
  have c8 : ∀ a, a ≠ 48 → a ≠ 49 → a ≠ 50 → a ≠ 52 → M8.1 a = M.1 a := fun a a1 a2 a3 a4 => (wr_cell a2).trans ((wr_cell a4).trans ((wr_cell a3).trans ((f5.1 a (by simpa using a1)).trans ((sI_cell a1).trans ((sI_cell a1).trans (sI_cell a1))))))
  have r8 : M8.2 = M.2 := f5.2
  have k48 : M8.1 48 = M5.1 48 := (wr_cell (by decide)).trans ((wr_cell (by decide)).trans (wr_cell (by decide)))
  have k482 : M8.1 48 2 = 0 := by
    rw [k48, h5i 2 (by decide)]
    exact (sI_ix (by decide)).trans ((sI_ix (by decide)).trans sI_same)
  have k481 : M8.1 48 1 = nI 0 := by
    rw [k48, h5i 1 (by decide)]
    exact (sI_ix (by decide)).trans sI_same
  have k486 : M8.1 48 6 = oE (-1) (lsO ρ (tY τ)) := by rw [k48]; exact h56
  have z50 : ∀ c, c < 7 → M8.1 50 c = 0 := fun c hc => by
    have h1 : M8.1 50 = M6.1 50 := (wr_cell (by decide)).trans (wr_cell (by decide))
    have := wr_at (M := M5) (a := 50) (l := 0) (B := fun _ => (0 : Int32)) hc
    rw [Nat.zero_add] at this
    rw [h1]; exact this
  have z52 : ∀ c, c < 6 → M8.1 52 c = 0 := fun c hc => by
    have h1 : M8.1 52 = M7.1 52 := wr_cell (by decide)
    have := wr_at (M := M6) (a := 52) (l := 0) (B := fun _ => (0 : Int32)) hc
    rw [Nat.zero_add] at this
    rw [h1]; exact this
  have z49 : ∀ c, c < 6 → M8.1 49 c = 0 := fun c hc => by
    have := wr_at (M := M7) (a := 49) (l := 0) (B := fun _ => (0 : Int32)) hc
    rw [Nat.zero_add] at this
    exact this
  have K8 : KpX [48, 49] [] M M8 := ⟨fun a ha hx => by
    simp at hx
    exact c8 a hx.1 hx.2 (by intro e; subst e; revert ha; decide) (by intro e; subst e; revert ha; decide), fun k _ _ _ _ => by rw [c8 67 (by decide) (by decide) (by decide) (by decide)], by rw [r8], fun _ _ => by rw [r8]⟩
  have fin : ∀ M', KpX [48, 49] [] M M' → M'.1 48 2 = 0 → fbS τ (fun y => if ρ (12 + y) = 0 then w y else 0) b M' → RelP t v τ ρ F M' ∧ M'.1 48 1 = nI b ∧ ∀ y, y < tY τ → ρ (12 + y) = 0 → M'.1 49 y = nI (w y) := fun M' K h2 fb => by
    have hf : ∀ y, y < tY τ → ρ (12 + y) = 0 → M'.1 49 y = nI (w y) := fun y hy h0 => by
      rw [fb.2 y hy]
      show nI (if ρ (12 + y) = 0 then w y else 0) = _
      rw [if_pos h0]
    exact ⟨R.kx (ρ' := ρ) K (by decide) (by decide) (by decide) (by decide) wn (R.2.2.2.2.1.kx K (by decide)) (R.2.2.2.2.2.1.kx K (by decide)) (R.2.2.2.2.2.2.2.1.kx K (by decide) (by decide)) (R.2.2.2.2.2.2.2.2.1.kx K (by decide)) (R.2.2.2.2.2.2.2.2.2.1.kx K (by decide) (by decide)) (R.2.2.2.2.2.2.2.2.2.2.1.kx K (by decide) (by decide)) (Or.inr ⟨h2, b, w, B, fb.1, hf⟩), fb.1, hf⟩
  have f0 : b = 0 → fbS τ (fun y => if ρ (12 + y) = 0 then w y else 0) b M8 := fun hb => by
    refine ⟨by rw [k481, hb], fun j hj => ?_⟩
    rw [hb] at G
    have e : (if ρ (12 + j) = 0 then w j else 0) = 0 := tg_0 wn G (j + 1) j (by omega) hj
    show _ = nI (if ρ (12 + j) = 0 then w j else 0)
    rw [z49 j (by omega), e]
    rfl
  have start : f_X5_search 60 M = if M8.1 48 6 = -1 then some M8 else (f_X5_stand 60 0 (nI (gsN6 ρ (tY τ))) M8).bind fun M24 => some M24 := by
    unfold f_X5_search
    rw [h2, if_neg ne10, lt_def, lt_def, lt_def]
    show (f_X5_search_L27 60 FU 0 0 M4).bind _ = _
    rw [e5, sb, c_fill (by omega), sb, c_fill (by omega), sb, c_fill (by omega), sb]
  obtain ⟨ls1, ls2⟩ := ls_ok ρ (tY τ)
  cases hls : lsO ρ (tY τ) with
  | none =>
    have hb : b = 0 := by
      rw [← G.2.2.2.1]
      have hz := ls1 hls
      have : ctN τ ρ (fun y => if ρ (12 + y) = 0 then w y else 0) = sumN (fun _ => 0) (tS τ) := sumN_cong (fun s hs => by
        have L0 : ∀ c, Lw τ ρ (fun y => if ρ (12 + y) = 0 then w y else 0) c = 0 := fun c => by
          have : Lw τ ρ (fun y => if ρ (12 + y) = 0 then w y else 0) c ≤ tY τ * 0 := sumN_le (fun k hk => by rw [hz k hk, ite_self]; exact Nat.le_refl _)
          omega
        have := (hw.2.2.2.2.2.2 s hs).2.2.2.1
        rw [L0, L0, if_neg (by omega)])
      rw [this]
      have h : sumN (fun _ => 0) (tS τ) ≤ tS τ * 0 := sumN_le (fun k hk => Nat.le_refl _)
      omega
    refine ⟨M8, ?_, fin M8 K8 k482 (f0 hb)⟩
    rw [start, k486, hls, if_pos (show oE (-1) none = -1 from rfl)]
  | some la =>
    obtain ⟨l1, l2⟩ := ls2 la hls
    have X8 : stX τ ρ t la M8 := ⟨R.2.2.1.of (fun a ha => c8 a (by omega) (by omega) (by omega) (by omega)), R.2.2.2.2.1.of (fun a ha hb => c8 a (by omega) (by omega) (by omega) (by omega)) (by rw [r8]), by rw [k486, hls]; rfl⟩
    obtain ⟨M9, e9, F9, -, -, -, f9, -⟩ := c_stand (tt := fun y => if ρ (12 + y) = 0 then w y else 0) hw wn G l1 l2 la 40 0 (fun _ => 0) M8 (by omega) (by omega) X8 (fun j hj => absurd hj (by omega)) (fun c hc => z50 c hc) (fun j hj => absurd hj (by omega)) (fun j _ hj => z52 j hj) (by
      by_cases hb : b = 0
      · exact Or.inr (f0 hb)
      · exact Or.inl ⟨0, by omega, k481⟩) (Or.inl (fun j hj => absurd hj (by omega)))
    have K9 : KpX [48, 49] [] M M9 := KpX.tr K8 (F9.1.kx (by decide) (by decide))
    refine ⟨M9, ?_, fin M9 K9 (F9.2.2.trans k482) (f9 (Or.inr (fun j hj => absurd hj (by omega))))⟩
    rw [start, k486, hls, if_neg (show ¬ oE (-1) (some la) = -1 from nm1 (by omega))]
    have e9 : f_X5_stand 60 0 (nI (gsN6 ρ (tY τ))) M8 = some M9 := e9
    rw [e9, sb]
end SRC
theorem s_best {M : Mem} (R : Rel M) (x1 : Int32) : OkB (f_X11_best x1 M) (f_X12_best x1) := by
  have R0 := R
  obtain ⟨t, v, τ, ρ, F, R⟩ := R
  have hw := R.1
  have wn := R.2.1
  have hT : TC t τ M := R.2.2.1
  have hV : TR v τ M := R.2.2.2.1
  have h9 : M.2.2 0 9 = some t := R.2.2.2.2.2.2.1.1
  have hY : tY τ ≤ 6 := hw.2.2.1
  by_cases hx : x1 = -1 ∨ ∃ j, j < tY τ ∧ x1 = nI j
  case neg =>
    have hn : ¬ x1 = -1 := fun z => hx (Or.inl z)
    have ho : x1 < 0 ∨ nI (tY τ) ≤ x1 := by
      rcases ar_in x1 (n := tY τ) (by omega) with h | ⟨j, hj, h⟩
      · exact h
      · exact absurd (Or.inr ⟨j, hj, h⟩) hx
    refine ⟨-1, M, M, ?_, ?_, R0⟩
    · unfold f_X11_best
      rw [lt_def, if_neg hn, c_isYoung_o hT h9 ho, sb, if_pos rfl]
    · unfold f_X12_best
      rw [lt_def, if_neg hn, r_isYoung_o hw hV ho, sb, if_pos rfl]
  obtain ⟨-, b, w, -, -, B, b10, -⟩ := r_best R
  obtain ⟨M1, e1, R1, m1, m2⟩ := c_search R B
  obtain ⟨M2, b', w', e2, R2, B', -, r2⟩ := r_best R1
  obtain ⟨hb, hu⟩ := best_u B B'
  rcases hx with rfl | ⟨j, hj, rfl⟩
  · refine ⟨nI b, M1, M2, ?_, ?_, R2.rel⟩
    · unfold f_X11_best
      rw [lt_def, if_pos rfl, e1, sb, m1, if_pos rfl]
    · unfold f_X12_best
      rw [lt_def, if_pos rfl, e2, sb, hb, if_pos rfl]
  · have hbit := (wn.2.1 j (by omega)).2.1
    have hn : ¬ nI j = -1 := nm1 (by omega)
    rcases (by omega : ρ (12 + j) = 0 ∨ ρ (12 + j) = 1) with e | e
    · refine ⟨nI (w j), M1, M2, ?_, ?_, R2.rel⟩
      · unfold f_X11_best
        rw [lt_def, if_neg hn, c_isYoung_i hw hT h9 hj, sb, if_neg ne10, e1, sb, c_home R1.2.2.2.2.1 wn (by omega), sb, hm_0 e, if_neg Bool.false_ne_true, if_pos rfl, ag_n (by omega) (by omega), sb, m2 j hj e, if_neg hn]
      · unfold f_X12_best
        rw [lt_def, if_neg hn, r_isYoung_i hw R1.tr hj, sb, if_neg ne10, e2, sb, ag_n (by omega) (by omega), sb, r2 j hj, if_neg (show ¬ ρ (12 + j) = 1 by omega), if_neg hn, hu j hj e]
    · refine ⟨-2, M1, M2, ?_, ?_, R2.rel⟩
      · unfold f_X11_best
        rw [lt_def, if_neg hn, c_isYoung_i hw hT h9 hj, sb, if_neg ne10, e1, sb, c_home R1.2.2.2.2.1 wn (by omega), sb, hm_1 e, if_pos rfl, if_neg ne10, if_neg hn]
      · unfold f_X12_best
        rw [lt_def, if_neg hn, r_isYoung_i hw R1.tr hj, sb, if_neg ne10, e2, sb, ag_n (by omega) (by omega), sb, r2 j hj, if_pos e, if_neg hn]

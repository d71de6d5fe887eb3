-- 57.gather: pure: gather, tree
def gsm (τ : Nat → Nat → Nat) (ρ : Nat → Nat) (c : Nat) : Nat := sumN (fun y => if ρ (12 + y) = 0 then dsN τ (fun _ => true) 0 c (ρ y) else 0) (tY τ)
def gaO (f : Nat → Nat) : Nat → Option Nat × Nat
  | 0 => (none, 1000)
  | c + 1 => if f c < (gaO f c).2 then (some c, f c) else gaO f c
theorem ga_s (f : Nat → Nat) (c : Nat) : gaO f (c + 1) = if f c < (gaO f c).2 then (some c, f c) else gaO f c := rfl
theorem ga_i (f : Nat → Nat) : ∀ n, (gaO f n).2 ≤ 1000 ∧ ∀ b, (gaO f n).1 = some b → b < n ∧ (gaO f n).2 = f b
  | 0 => ⟨Nat.le_refl _, fun b h => by cases h⟩
  | n + 1 => by
    have ih := ga_i f n
    rw [ga_s]
    by_cases h : f n < (gaO f n).2
    · rw [if_pos h]
      refine ⟨by show f n ≤ 1000; omega, fun b hb => ?_⟩
      cases hb
      exact ⟨Nat.lt_succ_self n, rfl⟩
    · rw [if_neg h]
      refine ⟨ih.1, fun b hb => ?_⟩
      have := ih.2 b hb
      exact ⟨by omega, this.2⟩
section GAT
variable {F : Nat → (Nat → Int32) → Int32} {τ : Nat → Nat → Nat} {ρ : Nat → Nat} {t v : Nat} {M : Mem}
theorem gsm_le (hw : wfT τ) (c : Nat) : gsm τ ρ c ≤ 6000 := by
  have hY : tY τ ≤ 6 := hw.2.2.1
  have h : gsm τ ρ c ≤ tY τ * 1000 := sumN_le (fun k hk => by
    have := ds_le (τ := τ) (fun _ => true) 0 c (ρ k)
    split <;> omega)
  omega
theorem c_steps {c : Nat} (R : RelP t v τ ρ F M) (hc : c < tC τ) : ∃ M', f_X10_stepsOfAll 60 (nI c) M = some (nI (gsm τ ρ c), M') ∧ RelP t v τ ρ F M' := by
  have hw := R.1
  have hY : tY τ ≤ 6 := hw.2.2.1
  have hC : tC τ ≤ 7 := hw.1
  obtain ⟨M1, e1, f1, r1⟩ := c_meas hw R.2.2.1 hc (free := 0) (by omega)
  have R1 := R.f46 f1
  have hT : TC t τ M1 := R1.2.2.1
  have hN : NC 60 t τ ρ M1 := R1.2.2.2.2.1
  have wn := R.2.1
  have key : f_X10_stepsOfAll_L15 60 FU 0 0 M1 = some (nI (gsm τ ρ c)) := by
    refine loop0 (fun fu y => f_X10_stepsOfAll_L15 60 fu (nI (sumN (fun y => if ρ (12 + y) = 0 then dsN τ (fun _ => true) 0 c (ρ y) else 0) y)) (nI y) M1) _ (tY τ) (by omega) (fun fu => ?_) (fun fu y hy => ?_)
    · show f_X10_stepsOfAll_L15 60 (fu + 1) _ _ M1 = _
      rw [f_X10_stepsOfAll_L15, rT_n hN.2.1 hT.1, sb, hT.2.2.2.1, if_pos (nI_le (Nat.le_refl _) (by omega))]
      rfl
    · show f_X10_stepsOfAll_L15 60 (fu + 1) _ _ M1 = f_X10_stepsOfAll_L15 60 fu _ _ M1
      have hb := (wn.2.1 y (by omega)).2.1
      have ha := wn.1 y hy
      rw [f_X10_stepsOfAll_L15, rT_n hN.2.1 hT.1, sb, hT.2.2.2.1, if_neg (nI_ge hy (by omega)), c_home hN wn (by omega), sb, sumN_s]
      by_cases h0 : ρ (12 + y) = 0
      · rw [hm_0 h0, if_neg Bool.false_ne_true, if_pos rfl, ag_n (by omega) (by omega), sb, hN.2.2.2.2.2.2.1 y hy, ag_n (by omega) (by omega), sb, r1 _ (by omega), lt_def, lt_def, nI_add, nI_1, if_pos h0]
      · rw [hm_1 (by omega), if_pos rfl, if_neg ne10, lt_def, nI_1, if_neg h0]
        rfl
  refine ⟨M1, ?_, R1⟩
  unfold f_X10_stepsOfAll
  rw [rT_n R.2.2.2.2.1.2.1 R.2.2.1.1, sb, show (0 : Int32) = nI 0 from rfl, e1, sb, show f_X10_stepsOfAll_L15 60 FU (nI 0) (nI 0) M1 = _ from key, sb]
theorem r_steps {x1 x2 x3 x4 : Int32} {c : Nat} (hw : wfT τ) (hV : TR v τ M) (hN : NR 104 τ ρ M) (wn : wfN τ ρ) (r1 : ∀ c', c' < 7 → M.1 110 c' = nI (dsN τ (fun _ => true) 0 c c')) : f_X12_gather_L53 FU x1 x2 x3 x4 0 0 M = some (nI (gsm τ ρ c)) := by
  have hY : tY τ ≤ 6 := hw.2.2.1
  have hC : tC τ ≤ 7 := hw.1
  have hv : v ≤ 1 := hV.1
  refine loop0 (fun fu y => f_X12_gather_L53 fu x1 x2 x3 x4 (nI (sumN (fun y => if ρ (12 + y) = 0 then dsN τ (fun _ => true) 0 c (ρ y) else 0) y)) (nI y) M) _ (tY τ) (by omega) (fun fu => ?_) (fun fu y hy => ?_)
  · show f_X12_gather_L53 (fu + 1) _ _ _ _ _ _ M = _
    rw [f_X12_gather_L53, hV.2.1, ag_n (by omega) (by omega), sb, hV.2.2.2.2.1, if_pos (nI_le (Nat.le_refl _) (by omega))]
    rfl
  · show f_X12_gather_L53 (fu + 1) _ _ _ _ _ _ M = f_X12_gather_L53 fu _ _ _ _ _ _ M
    have hb := (wn.2.1 y (by omega)).2.1
    have ha := wn.1 y hy
    rw [f_X12_gather_L53, hV.2.1, ag_n (by omega) (by omega), sb, hV.2.2.2.2.1, if_neg (nI_ge hy (by omega)), li 12, nI_add, ag_n (by omega) (by omega), sb, hN.1 (12 + y) (by omega) (by omega), sumN_s]
    by_cases h0 : ρ (12 + y) = 0
    · rw [h0, if_pos nI_0, ag_n (by omega) (by omega), sb, hN.1 y (by omega) (by omega), ag_n (by omega) (by omega), sb, r1 _ (by omega), lt_def, lt_def, nI_add, nI_1, if_pos rfl]
    · rw [if_neg (nI_ne0 (by omega) (by omega)), lt_def, nI_1, if_neg h0]
      rfl
end GAT
theorem s_gather {M : Mem} (R : Rel M) (x1 : Int32) : OkB (f_X11_gather x1 M) (f_X12_gather x1) := by
  have R0 := R
  obtain ⟨t, v, τ, ρ, F, R⟩ := R
  have hw := R.1
  have hC : tC τ ≤ 7 := hw.1
  rcases eith x1 with ⟨h01, i1, i2⟩ | ⟨n0, n1, i1, i2⟩
  case inr =>
    refine ⟨-1, M, M, ?_, ?_, R0⟩
    · unfold f_X11_gather
      rw [i2, sb, if_pos rfl]
    · unfold f_X12_gather
      rw [i1, sb, if_pos rfl]
  obtain ⟨A, eA, qA, RA⟩ := loopQ (fun fu c (u : Int32 × Int32 × Mem) => f_X10_nearestToAll_L9 60 fu u.1 u.2.1 (nI c) u.2.2) (fun c u => RelP t v τ ρ F u.2.2 ∧ u.1 = oE (-1) (gaO (gsm τ ρ) c).1 ∧ u.2.1 = nI (gaO (gsm τ ρ) c).2) (fun u => u.1 = oE (-1) (gaO (gsm τ ρ) (tC τ)).1 ∧ RelP t v τ ρ F u.2) (tC τ) (by omega) (fun fu u hP => by
      refine ⟨(u.1, u.2.2), ?_, hP.2.1, hP.1⟩
      show f_X10_nearestToAll_L9 60 (fu + 1) _ _ _ _ = _
      rw [f_X10_nearestToAll_L9, rT_n hP.1.2.2.2.2.1.2.1 hP.1.2.2.1.1, sb, hP.1.2.2.1.2.1, if_pos (nI_le (Nat.le_refl _) (by omega))]) (fun fu c u hc hP => by
      obtain ⟨M1, e1, R1⟩ := c_steps hP.1 hc
      have g6 := gsm_le (ρ := ρ) hw c
      have gi := ga_i (gsm τ ρ) c
      right
      show ∃ u', f_X10_nearestToAll_L9 60 (fu + 1) _ _ _ _ = f_X10_nearestToAll_L9 60 fu _ _ _ _ ∧ _
      rw [f_X10_nearestToAll_L9, rT_n hP.1.2.2.2.2.1.2.1 hP.1.2.2.1.1, sb, hP.1.2.2.1.2.1, if_neg (nI_ge hc (by omega)), e1, sb, hP.2.2, lt_def, lt_def, nI_1 c, ga_s]
      by_cases h : gsm τ ρ c < (gaO (gsm τ ρ) c).2
      · rw [if_neg (nI_ge h (by omega)), if_pos h]
        exact ⟨(_, _, M1), rfl, R1, rfl, rfl⟩
      · rw [if_pos (nI_le (by omega) (by omega)), if_neg h]
        exact ⟨(u.1, _, M1), rfl, R1, hP.2.1, rfl⟩) (-1, 1000, M) ⟨R, rfl, rfl⟩
  have refr : ∀ Q, RelP t v τ ρ F Q → ∃ M5, f_X12_copies Q = some M5 ∧ ∃ B : Int32 × Int32 × Mem, f_X12_gather_L25 FU x1 (-2) 1000 0 M5 = some B ∧ B.1 = oE (-2) (gaO (gsm τ ρ) (tC τ)).1 ∧ B.2.1 = nI (gaO (gsm τ ρ) (tC τ)).2 ∧ RelP t v τ ρ F B.2.2 := by
    intro Q RQ
    obtain ⟨M5, e5, R5, X5, f5, -, -⟩ := RQ.rx
    refine ⟨M5, e5, ?_⟩
    exact loopQ (fun fu c (u : Int32 × Int32 × Mem) => f_X12_gather_L25 fu x1 u.1 u.2.1 (nI c) u.2.2) (fun c u => RX v τ ρ F u.2.2 ∧ RelP t v τ ρ F u.2.2 ∧ u.1 = oE (-2) (gaO (gsm τ ρ) c).1 ∧ u.2.1 = nI (gaO (gsm τ ρ) c).2) (fun B => B.1 = oE (-2) (gaO (gsm τ ρ) (tC τ)).1 ∧ B.2.1 = nI (gaO (gsm τ ρ) (tC τ)).2 ∧ RelP t v τ ρ F B.2.2) (tC τ) (by omega) (fun fu u hP => by
      have V' := hP.1.2.2.1
      have hv : v ≤ 1 := V'.1
      refine ⟨u, ?_, hP.2.2.1, hP.2.2.2, hP.2.1⟩
      show f_X12_gather_L25 (fu + 1) _ _ _ _ _ = _
      rw [f_X12_gather_L25, V'.2.1, ag_n (by omega) (by omega), sb, V'.2.2.1, if_pos (nI_le (Nat.le_refl _) (by omega))]) (fun fu c u hc hP => by
      have V' := hP.1.2.2.1
      have hv : v ≤ 1 := V'.1
      obtain ⟨M1, e1, f1, r1⟩ := r_far (x3 := 0) (op := fun _ => true) (free := 0) (fr := c) hw V' (by omega) (by omega) sh_0
      have X1 := hP.1.fr f1 (by decide)
      have R1 := hP.2.1.fm f1 (by decide)
      have g6 := gsm_le (ρ := ρ) hw c
      have gi := ga_i (gsm τ ρ) c
      right
      show ∃ u', f_X12_gather_L25 (fu + 1) _ _ _ _ _ = f_X12_gather_L25 fu _ _ _ _ _ ∧ _
      rw [f_X12_gather_L25, V'.2.1, ag_n (by omega) (by omega), sb, V'.2.2.1, if_neg (nI_ge hc (by omega)), show f_X12_fillsFar (nI c) 0 0 u.2.2 = some M1 from e1, sb, r_steps hw X1.2.2.1 X1.2.2.2.1 X1.2.1 r1, sb, hP.2.2.2, lt_def, lt_def, nI_1 c, ga_s]
      by_cases h : gsm τ ρ c < (gaO (gsm τ ρ) c).2
      · rw [if_pos (nI_lt' h (by omega)), if_pos h]
        exact ⟨(_, _, M1), rfl, X1, R1, rfl, rfl⟩
      · rw [if_neg (nI_nlt' (nI_le (by omega) (by omega))), if_neg h]
        exact ⟨(u.1, _, M1), rfl, X1, R1, hP.2.2.1, rfl⟩) (-2, 1000, M5) ⟨X5, R5, rfl, rfl⟩
  have eA' : f_X10_nearestToAll 60 M = some (A.1, A.2) := by
    unfold f_X10_nearestToAll
    rw [show f_X10_nearestToAll_L9 60 FU (-1) 1000 0 M = some A from eA, sb]
  have gi := ga_i (gsm τ ρ) (tC τ)
  cases hg : (gaO (gsm τ ρ) (tC τ)).1 with
  | none =>
    obtain ⟨M5, e5, B, eB, b1, b2, RB⟩ := refr A.2 RA
    rw [hg] at qA b1
    refine ⟨-2, A.2, B.2.2, ?_, ?_, RB.rel⟩
    · unfold f_X11_gather
      rw [i2, sb, if_neg ne10, eA', sb, if_pos (show (A.1, A.2).1 = -1 from qA)]
    · unfold f_X12_gather
      rw [i1, sb, if_neg ne10, e5, sb, eB, sb, b1, if_pos (show oE (-2) none < 0 by decide)]
      rfl
  | some b =>
    obtain ⟨hb, h2⟩ := gi.2 b hg
    have g6 := gsm_le (ρ := ρ) hw b
    rw [hg] at qA
    have qA : A.1 = nI b := qA
    rcases h01 with rfl | rfl
    · obtain ⟨M5, e5, B, eB, b1, b2, RB⟩ := refr A.2 RA
      rw [hg] at b1
      have b1 : B.1 = nI b := b1
      refine ⟨nI b, A.2, B.2.2, ?_, ?_, RB.rel⟩
      · unfold f_X11_gather
        rw [i2, sb, if_neg ne10, eA', sb, qA, if_neg (nm1 (by omega)), if_pos rfl]
      · unfold f_X12_gather
        rw [i1, sb, if_neg ne10, e5, sb, eB, sb, b1, if_neg (nI_pos (by omega)), if_pos rfl]
    · obtain ⟨M1, e1, R1⟩ := c_steps RA hb
      obtain ⟨M5, e5, B, eB, b1, b2, RB⟩ := refr M1 R1
      rw [hg] at b1
      have b1 : B.1 = nI b := b1
      refine ⟨nI (gsm τ ρ b), M1, B.2.2, ?_, ?_, RB.rel⟩
      · unfold f_X11_gather
        rw [i2, sb, if_neg ne10, eA', sb, qA, if_neg (nm1 (by omega)), if_neg ne10, e1, sb]
      · unfold f_X12_gather
        rw [i1, sb, if_neg ne10, e5, sb, eB, sb, b1, if_neg (nI_pos (by omega)), if_neg ne10, b2, h2]

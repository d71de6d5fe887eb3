-- 56.ways: pure: steps, dark, safe, bridges
section WAY
variable {F : Nat → (Nat → Int32) → Int32} {τ : Nat → Nat → Nat} {ρ : Nat → Nat} {n t v s : Nat} {M M' : Mem}
theorem RelP.f46 (R : RelP t v τ ρ F M) (f : FrD [46] M M') : RelP t v τ ρ F M' := R.kp (f.c.kp (by decide))
def fwV (d : Nat) : Int32 := if d < 1000 then nI d else -2
theorem c_fewest (hw : wfT τ) (hT : TC t τ M) {fr to free : Nat} (hfr : fr < tC τ) (hto : to < tC τ) (hfree : free < 2 ^ 31) : ∃ M', f_X10_fewest t (nI fr) (nI to) (nI free) M = some (fwV (dsN τ (fun _ => true) free fr to), M') ∧ FrD [46] M M' := by
  have hC : tC τ ≤ 7 := hw.1
  obtain ⟨M1, e1, f1, r1⟩ := c_meas hw hT hfr hfree
  refine ⟨M1, ?_, f1⟩
  have h1 := ds_le (τ := τ) (fun _ => true) free fr to
  unfold f_X10_fewest fwV
  rw [e1, sb, ag_n (by omega) (by omega), sb, sb, r1 to (by omega), li 1000]
  by_cases h : dsN τ (fun _ => true) free fr to < 1000
  · rw [if_pos (nI_lt' h (by omega)), if_pos h]
  · rw [if_neg (nI_nlt' (nI_le (by omega) (by omega))), if_neg h]
theorem r_farTo {op : Nat → Bool} {free fr to : Nat} (h7 : to < 7) (r1 : ∀ c, c < 7 → M.1 110 c = nI (dsN τ op free fr c)) : f_X12_farTo (nI to) M = some (fwV (dsN τ op free fr to)) := by
  have h1 := ds_le (τ := τ) op free fr to
  unfold f_X12_farTo fwV
  rw [ag_n (by omega) (by omega), sb, sb, r1 to (by omega), li 1000]
  by_cases h : dsN τ op free fr to < 1000
  · rw [if_pos (nI_lt' h (by omega)), if_pos h]
  · rw [if_neg (nI_nlt' (nI_le (by omega) (by omega))), if_neg h]
theorem sh_0 : ∀ s, s < 10 → ((0 : Int32) >>> (nI s &&& 31)) &&& (1 : Int32) = if (fun _ => true) s then 0 else 1 := by decide +kernel
theorem lit_lt (hw : wfT τ) : litN τ ρ < 1024 := Nat.lt_of_lt_of_le (mskN_lt _ _) (show 2 ^ tS τ ≤ 2 ^ 10 from Nat.pow_le_pow_right (by decide) hw.2.1)
theorem r_litNow (R : RelP t v τ ρ F M) : ∃ M', f_X12_litNow M = some (nI (litN τ ρ), M') ∧ RelP t v τ ρ F M' := by
  obtain ⟨M5, e5, R5, X5, f5, -, -⟩ := R.rx
  obtain ⟨M6, e6, f6⟩ := r_lits R.1 X5.2.2.1 X5.2.2.2.1 X5.2.1
  refine ⟨M6, ?_, R5.fm f6 (by decide)⟩
  unfold f_X12_litNow
  rw [e5, sb, e6, sb]
-- lit streets alone: free of them is 0 just where there is a way by them
theorem reach_k {m : Nat} {A B : Nat → Nat} {L fr : Nat} : ∀ k, k < 900 → ∀ c, (dJ m A B (fun s => L.testBit s) (coF 0) fr k c < 1000 → dJ m A B (fun s => L.testBit s) (coF 0) fr k c ≤ k) ∧ (dJ m A B (fun s => L.testBit s) (coF 0) fr k c < 1000 ↔ dJ m A B (fun _ => true) (coF L) fr k c = 0)
  | 0, _, c => by
    show ((if c = fr then 0 else 1000) < 1000 → (if c = fr then 0 else 1000) ≤ 0) ∧ ((if c = fr then 0 else 1000) < 1000 ↔ (if c = fr then 0 else 1000) = 0)
    by_cases h : c = fr
    · rw [if_pos h]; omega
    · rw [if_neg h]; omega
  | k + 1, hk, c => by
    have ih := reach_k (m := m) (A := A) (B := B) (L := L) (fr := fr) k (by omega)
    have c0 : ∀ s, coF 0 s = 1 := fun s => by unfold coF; rw [Nat.zero_testBit]; rfl
    have up : dJ m A B (fun s => L.testBit s) (coF 0) fr (k + 1) c < 1000 → dJ m A B (fun s => L.testBit s) (coF 0) fr (k + 1) c ≤ k + 1 := by
      intro h
      by_cases hl : dJ m A B (fun s => L.testBit s) (coF 0) fr (k + 1) c < dJ m A B (fun s => L.testBit s) (coF 0) fr k c
      · obtain ⟨u, s, ha, he⟩ := dJ_imp hl
        have := (ih u).1 (by rw [c0] at he; omega)
        rw [he, c0]; omega
      · have h1 := dJ_le (m := m) (A := A) (B := B) (op := fun s => L.testBit s) (co := coF 0) (fr := fr) k c
        have := (ih c).1 (by omega)
        omega
    refine ⟨up, fun h => ?_, fun h => ?_⟩
    · by_cases hl : dJ m A B (fun s => L.testBit s) (coF 0) fr (k + 1) c < dJ m A B (fun s => L.testBit s) (coF 0) fr k c
      · obtain ⟨u, s, ⟨h1, h2, h3⟩, he⟩ := dJ_imp hl
        have hu := (ih u).2.mp (by rw [c0] at he; omega)
        have := dJ_adj (m := m) (A := A) (B := B) (op := fun _ => true) (co := coF L) (fr := fr) (k := k) (c := c) (u := u) (s := s) ⟨h1, rfl, h3⟩
        have hz : coF L s = 0 := if_pos h2
        omega
      · have h1 := dJ_le (m := m) (A := A) (B := B) (op := fun s => L.testBit s) (co := coF 0) (fr := fr) k c
        have h2 := (ih c).2.mp (by omega)
        have h3 := dJ_le (m := m) (A := A) (B := B) (op := fun _ => true) (co := coF L) (fr := fr) k c
        omega
    · by_cases hl : dJ m A B (fun _ => true) (coF L) fr (k + 1) c < dJ m A B (fun _ => true) (coF L) fr k c
      · obtain ⟨u, s, ⟨h1, h2, h3⟩, he⟩ := dJ_imp hl
        have hz : coF L s = 0 := by omega
        have hb : L.testBit s = true := by
          unfold coF at hz
          by_cases q : L.testBit s = true
          · exact q
          · rw [if_neg q] at hz; omega
        have hu := (ih u).2.mpr (by omega)
        have hu2 := (ih u).1 hu
        have := dJ_adj (m := m) (A := A) (B := B) (op := fun s => L.testBit s) (co := coF 0) (fr := fr) (k := k) (c := c) (u := u) (s := s) ⟨h1, hb, h3⟩
        rw [c0] at this
        omega
      · have h1 := dJ_le (m := m) (A := A) (B := B) (op := fun _ => true) (co := coF L) (fr := fr) k c
        have h2 := (ih c).2.mpr (by omega)
        have h3 := dJ_le (m := m) (A := A) (B := B) (op := fun s => L.testBit s) (co := coF 0) (fr := fr) k c
        omega
theorem reach_e (hw : wfT τ) (L fr c : Nat) : dsN τ (fun s => L.testBit s) 0 fr c < 1000 ↔ dsN τ (fun _ => true) L fr c = 0 := by
  have hC : tC τ ≤ 7 := hw.1
  exact (reach_k (tC τ - 1) (by omega) c).2
theorem r_fillsLit (hw : wfT τ) (hV : TR v τ M) {L fr : Nat} (hfr : fr < 7) (hL : L < 1024) : ∃ M', f_X12_fillsLit (nI fr) (nI L) M = some M' ∧ FrM [110] M M' ∧ ∀ c, c < 7 → M'.1 110 c = nI (dsN τ (fun s => L.testBit s) 0 fr c) := by
  obtain ⟨M1, e1, f1, r1⟩ := r_far (x3 := nI L ^^^ (-1)) (op := fun s => L.testBit s) (free := 0) hw hV hfr (by omega) (fun s hs => shut_b hL hs)
  refine ⟨M1, ?_, f1, r1⟩
  unfold f_X12_fillsLit
  rw [show (0 : Int32) = nI 0 from rfl, e1, sb]
theorem andc_l {a b : Nat} (ha : a < 1024) : a ^^^ (a &&& b) < 1024 := Nat.xor_lt_two_pow (n := 10) ha (Nat.lt_of_le_of_lt Nat.and_le_left ha)
end WAY
theorem s_steps {M : Mem} (R : Rel M) (x1 x2 : Int32) : OkB (f_X11_steps x1 x2 M) (f_X12_steps x1 x2) := by
  have R0 := R
  obtain ⟨t, v, τ, ρ, F, R⟩ := R
  have hw := R.1
  have hT : TC t τ M := R.2.2.1
  have hV : TR v τ M := R.2.2.2.1
  have h9 : M.2.2 0 9 = some t := R.2.2.2.2.2.2.1.1
  have hC : tC τ ≤ 7 := hw.1
  rcases ar_in x1 (n := tC τ) (by omega) with h | ⟨a, ha, rfl⟩
  · refine ⟨-1, M, M, ?_, ?_, R0⟩
    · unfold f_X11_steps
      rw [c_isCorner_o hT h9 h, sb, if_pos rfl]
    · unfold f_X12_steps
      rw [r_isCorner_o hw hV h, sb, if_pos rfl]
  rcases ar_in x2 (n := tC τ) (by omega) with h | ⟨b, hb, rfl⟩
  · refine ⟨-1, M, M, ?_, ?_, R0⟩
    · unfold f_X11_steps
      rw [c_isCorner_i hw hT h9 ha, sb, if_neg ne10, c_isCorner_o hT h9 h, sb, if_pos rfl]
    · unfold f_X12_steps
      rw [r_isCorner_i hw hV ha, sb, if_neg ne10, r_isCorner_o hw hV h, sb, if_pos rfl]
  obtain ⟨M1, e1, f1⟩ := c_fewest hw hT ha hb (free := 0) (by omega)
  have R1 := R.f46 f1
  obtain ⟨M2, e2, f2, r2⟩ := r_far (x3 := 0) (op := fun _ => true) (free := 0) (fr := a) hw R1.tr (by omega) (by omega) sh_0
  refine ⟨fwV (dsN τ (fun _ => true) 0 a b), M1, M2, ?_, ?_, (R1.fm f2 (by decide)).rel⟩
  · unfold f_X11_steps
    rw [c_isCorner_i hw hT h9 ha, sb, if_neg ne10, c_isCorner_i hw hT h9 hb, sb, if_neg ne10, rT_n h9 hT.1, sb, show (0 : Int32) = nI 0 from rfl, e1, sb]
  · unfold f_X12_steps
    rw [r_isCorner_i hw R1.tr ha, sb, if_neg ne10, r_isCorner_i hw R1.tr hb, sb, if_neg ne10, show f_X12_fillsFar (nI a) 0 0 M1 = some M2 from e2, sb, r_farTo (by omega) r2, sb]
theorem s_dark {M : Mem} (R : Rel M) (x1 x2 : Int32) : OkB (f_X11_dark x1 x2 M) (f_X12_dark x1 x2) := by
  have R0 := R
  obtain ⟨t, v, τ, ρ, F, R⟩ := R
  have hw := R.1
  have hT : TC t τ M := R.2.2.1
  have hV : TR v τ M := R.2.2.2.1
  have h9 : M.2.2 0 9 = some t := R.2.2.2.2.2.2.1.1
  have hC : tC τ ≤ 7 := hw.1
  have hl := lit_lt (ρ := ρ) hw
  rcases ar_in x1 (n := tC τ) (by omega) with h | ⟨a, ha, rfl⟩
  · refine ⟨-1, M, M, ?_, ?_, R0⟩
    · unfold f_X11_dark
      rw [c_isCorner_o hT h9 h, sb, if_pos rfl]
    · unfold f_X12_dark
      rw [r_isCorner_o hw hV h, sb, if_pos rfl]
  rcases ar_in x2 (n := tC τ) (by omega) with h | ⟨b, hb, rfl⟩
  · refine ⟨-1, M, M, ?_, ?_, R0⟩
    · unfold f_X11_dark
      rw [c_isCorner_i hw hT h9 ha, sb, if_neg ne10, c_isCorner_o hT h9 h, sb, if_pos rfl]
    · unfold f_X12_dark
      rw [r_isCorner_i hw hV ha, sb, if_neg ne10, r_isCorner_o hw hV h, sb, if_pos rfl]
  obtain ⟨M1, e1, f1⟩ := c_fewest hw hT ha hb (free := litN τ ρ) (by omega)
  have R1 := R.f46 f1
  obtain ⟨M5, e5, R5⟩ := r_litNow R1
  obtain ⟨M2, e2, f2, r2⟩ := r_far (x3 := 0) (op := fun _ => true) (free := litN τ ρ) (fr := a) hw R5.tr (by omega) (by omega) sh_0
  refine ⟨fwV (dsN τ (fun _ => true) (litN τ ρ) a b), M1, M2, ?_, ?_, (R5.fm f2 (by decide)).rel⟩
  · unfold f_X11_dark
    rw [c_isCorner_i hw hT h9 ha, sb, if_neg ne10, c_isCorner_i hw hT h9 hb, sb, if_neg ne10, rT_n h9 hT.1, sb, c_lits hw hT R.2.2.2.2.1 R.2.1, sb, e1, sb]
  · unfold f_X12_dark
    rw [r_isCorner_i hw R1.tr ha, sb, if_neg ne10, r_isCorner_i hw R1.tr hb, sb, if_neg ne10, e5, sb, e2, sb, r_farTo (by omega) r2, sb]
theorem s_safe {M : Mem} (R : Rel M) (x1 : Int32) : OkB (f_X11_safe x1 M) (f_X12_safe x1) := by
  have R0 := R
  obtain ⟨t, v, τ, ρ, F, R⟩ := R
  have hw := R.1
  have hT : TC t τ M := R.2.2.1
  have hV : TR v τ M := R.2.2.2.1
  have h9 : M.2.2 0 9 = some t := R.2.2.2.2.2.2.1.1
  have hC : tC τ ≤ 7 := hw.1
  have hl := lit_lt (ρ := ρ) hw
  rcases ar_in x1 (n := tC τ) (by omega) with h | ⟨a, ha, rfl⟩
  · refine ⟨-1, M, M, ?_, ?_, R0⟩
    · unfold f_X11_safe
      rw [c_isCorner_o hT h9 h, sb, if_pos rfl]
    · unfold f_X12_safe
      rw [r_isCorner_o hw hV h, sb, if_pos rfl]
  obtain ⟨M1, e1, f1, r1⟩ := c_meas hw hT ha (free := litN τ ρ) (by omega)
  have R1 := R.f46 f1
  obtain ⟨M5, e5, R5⟩ := r_litNow R1
  obtain ⟨M2, e2, f2, r2⟩ := r_fillsLit hw R5.tr (fr := a) (by omega) hl
  have R2 := R5.fm f2 (by decide)
  have hv : v ≤ 1 := R2.tr.1
  have T1 := hT.f46 f1
  obtain ⟨p, hp⟩ : ∃ p : Nat → Bool, p = fun c => dsN τ (fun _ => true) (litN τ ρ) a c == 0 := ⟨_, rfl⟩
  have ep : ∀ c, p c = (dsN τ (fun _ => true) (litN τ ρ) a c == 0) := fun c => by rw [hp]
  have k1 : f_X10_reached_L13 t FU 0 0 M1 = some (nI (mskN p (tC τ))) := by
    refine loop0 (fun fu y => f_X10_reached_L13 t fu (nI (mskN p y)) (nI y) M1) _ (tC τ) (by omega) (fun fu => ?_) (fun fu y hy => ?_)
    · show f_X10_reached_L13 t (fu + 1) _ _ _ = _
      rw [f_X10_reached_L13, T1.2.1, if_pos (nI_le (Nat.le_refl _) (by omega))]
    · show f_X10_reached_L13 t (fu + 1) _ _ _ = f_X10_reached_L13 t fu _ _ _
      have h1 := ds_le (τ := τ) (fun _ => true) (litN τ ρ) a y
      rw [f_X10_reached_L13, T1.2.1, if_neg (nI_ge hy (by omega)), ag_n (by omega) (by omega), sb, r1 y (by omega), mskN_s, ep]
      by_cases h : dsN τ (fun _ => true) (litN τ ρ) a y = 0
      · rw [h, if_pos nI_0, lt_def, lt_def, nI_1, msk_or (by omega)]
        rfl
      · rw [if_neg (nI_ne0 (by omega) (by omega)), lt_def, nI_1, show (dsN τ (fun _ => true) (litN τ ρ) a y == 0) = false from beq_eq_false_iff_ne.mpr h]
        rfl
  have k2 : f_X12_safe_L23 FU 0 0 M2 = some (nI (mskN p (tC τ))) := by
    refine loop0 (fun fu y => f_X12_safe_L23 fu (nI (mskN p y)) (nI y) M2) _ (tC τ) (by omega) (fun fu => ?_) (fun fu y hy => ?_)
    · show f_X12_safe_L23 (fu + 1) _ _ _ = _
      rw [f_X12_safe_L23, R2.tr.2.1, ag_n (by omega) (by omega), sb, R2.tr.2.2.1, if_pos (nI_le (Nat.le_refl _) (by omega))]
    · show f_X12_safe_L23 (fu + 1) _ _ _ = f_X12_safe_L23 fu _ _ _
      have h1 := ds_le (τ := τ) (fun s => (litN τ ρ).testBit s) 0 a y
      have hr := reach_e hw (litN τ ρ) a y
      rw [f_X12_safe_L23, R2.tr.2.1, ag_n (by omega) (by omega), sb, R2.tr.2.2.1, if_neg (nI_ge hy (by omega)), ag_n (by omega) (by omega), sb, r2 y (by omega), mskN_s, ep, li 1000]
      by_cases h : dsN τ (fun _ => true) (litN τ ρ) a y = 0
      · rw [if_neg (nI_ge (hr.mpr h) (by omega)), h, lt_def, lt_def, nI_1, msk_or (by omega)]
        rfl
      · have h2 : ¬ dsN τ (fun s => (litN τ ρ).testBit s) 0 a y < 1000 := fun z => h (hr.mp z)
        rw [if_pos (nI_le (by omega) (by omega)), lt_def, nI_1, show (dsN τ (fun _ => true) (litN τ ρ) a y == 0) = false from beq_eq_false_iff_ne.mpr h]
        rfl
  refine ⟨nI (mskN p (tC τ)), M1, M2, ?_, ?_, R2.rel⟩
  · unfold f_X11_safe f_X10_reached
    rw [c_isCorner_i hw hT h9 ha, sb, if_neg ne10, rT_n h9 hT.1, sb, c_lits hw hT R.2.2.2.2.1 R.2.1, sb, e1, sb, k1, sb, sb]
  · unfold f_X12_safe
    rw [r_isCorner_i hw R1.tr ha, sb, if_neg ne10, e5, sb, e2, sb, k2, sb]
theorem s_bridges {M : Mem} (R : Rel M) : OkB (f_X11_bridges M) f_X12_bridges := by
  obtain ⟨t, v, τ, ρ, F, R⟩ := R
  have hw := R.1
  have hT : TC t τ M := R.2.2.1
  have h9 : M.2.2 0 9 = some t := R.2.2.2.2.2.2.1.1
  have hC : tC τ ≤ 7 := hw.1
  have hS : tS τ ≤ 10 := hw.2.1
  have hl := lit_lt (ρ := ρ) hw
  obtain ⟨L, hL⟩ : ∃ L, L = litN τ ρ := ⟨_, rfl⟩
  rw [← hL] at hl
  have hx : ∀ s, L ^^^ (L &&& 2 ^ s) < 1024 := fun s => andc_l hl
  obtain ⟨p, hp⟩ : ∃ p : Nat → Bool, p = fun s => L.testBit s && !(dsN τ (fun _ => true) (L ^^^ (L &&& 2 ^ s)) (τ 1 s) (τ 2 s) == 0) := ⟨_, rfl⟩
  have ep : ∀ s, p s = (L.testBit s && !(dsN τ (fun _ => true) (L ^^^ (L &&& 2 ^ s)) (τ 1 s) (τ 2 s) == 0)) := fun s => by rw [hp]
  have bz : ∀ s, s < 10 → (nI L &&& nI (2 ^ s) = 0 ↔ L.testBit s = false) := fun s hs => by
    have hlt : L &&& 2 ^ s < 2 ^ 31 := Nat.lt_of_le_of_lt Nat.and_le_left (by omega)
    rw [and_n]
    cases hb : L.testBit s
    · rw [show L &&& 2 ^ s = 0 by
        apply Nat.eq_of_testBit_eq
        intro j
        rw [Nat.testBit_and, Nat.testBit_two_pow, Nat.zero_testBit]
        by_cases e : s = j
        · subst e; rw [hb]; rfl
        · simp [e]]
      exact ⟨fun _ => rfl, fun _ => rfl⟩
    · refine ⟨fun z => ?_, fun z => by cases z⟩
      exfalso
      have h0 : ¬ L &&& 2 ^ s = 0 := fun q => by
        have := congrArg (fun z => Nat.testBit z s) q
        simp only [Nat.testBit_and, hb, Nat.testBit_two_pow, Nat.zero_testBit, decide_true, Bool.true_and] at this
        cases this
      exact nI_ne0 (by omega) hlt z
  obtain ⟨A, eA, qA, RA⟩ := loopQ (fun fu y (u : Int32 × Mem) => f_X10_onlyWays_L5 t fu (nI L) u.1 (nI y) u.2) (fun y u => RelP t v τ ρ F u.2 ∧ u.1 = nI (mskN p y)) (fun u => u.1 = nI (mskN p (tS τ)) ∧ RelP t v τ ρ F u.2) (tS τ) (by omega) (fun fu u hP => by
      refine ⟨u, ?_, hP.2, hP.1⟩
      show f_X10_onlyWays_L5 t (fu + 1) _ _ _ _ = _
      rw [f_X10_onlyWays_L5, hP.1.2.2.1.2.2.1, if_pos (nI_le (Nat.le_refl _) (by omega))]) (fun fu y u hy hP => by
      have T' := hP.1.2.2.1
      obtain ⟨h1, h2, -⟩ := T'.2.2.2.2.2.2.2.1 y hy
      obtain ⟨q1, q2, q3, -, -⟩ := hw.2.2.2.2.2.2 y hy
      right
      show ∃ u', f_X10_onlyWays_L5 t (fu + 1) _ _ _ _ = f_X10_onlyWays_L5 t fu _ _ _ _ ∧ _
      rw [f_X10_onlyWays_L5, T'.2.2.1, if_neg (nI_ge hy (by omega)), sh1 (by omega), lt_def, mskN_s, ep]
      cases hb : L.testBit y
      · rw [if_pos ((bz y (by omega)).mpr hb), lt_def, nI_1]
        exact ⟨u, rfl, hP.1, hP.2⟩
      · obtain ⟨M1, e1, f1⟩ := c_fewest (free := L ^^^ (L &&& 2 ^ y)) hw T' q1 q2 (Nat.lt_trans (hx y) (by decide))
        have hd := ds_le (τ := τ) (fun _ => true) (L ^^^ (L &&& 2 ^ y)) (τ 1 y) (τ 2 y)
        rw [if_neg (fun z => by rw [(bz y (by omega)).mp z] at hb; cases hb), ag_n (by omega) (by omega), sb, h1, ag_n (by omega) (by omega), sb, h2, andc_n, e1, sb]
        simp only [lt_def]
        rw [nI_1 y, hP.2]
        by_cases h : dsN τ (fun _ => true) (L ^^^ (L &&& 2 ^ y)) (τ 1 y) (τ 2 y) = 0
        · rw [if_pos (by rw [h]; rfl), h]
          exact ⟨(_, M1), rfl, hP.1.f46 f1, rfl⟩
        · rw [if_neg (by
            unfold fwV
            split
            · exact nI_ne0 (by omega) (by omega)
            · decide), or_n, or_add (mskN_lt p y), show (dsN τ (fun _ => true) (L ^^^ (L &&& 2 ^ y)) (τ 1 y) (τ 2 y) == 0) = false from beq_eq_false_iff_ne.mpr h]
          exact ⟨(_, M1), rfl, hP.1.f46 f1, rfl⟩) (0, M) ⟨R, rfl⟩
  obtain ⟨M5, e5, R5⟩ := r_litNow RA
  obtain ⟨B, eB, qB, RB⟩ := loopQ (fun fu y (u : Int32 × Mem) => f_X12_bridges_L9 fu (nI L) u.1 (nI y) u.2) (fun y u => RelP t v τ ρ F u.2 ∧ u.1 = nI (mskN p y)) (fun u => u.1 = nI (mskN p (tS τ)) ∧ RelP t v τ ρ F u.2) (tS τ) (by omega) (fun fu u hP => by
      have V' := hP.1.tr
      have hv : v ≤ 1 := V'.1
      refine ⟨u, ?_, hP.2, hP.1⟩
      show f_X12_bridges_L9 (fu + 1) _ _ _ _ = _
      rw [f_X12_bridges_L9, V'.2.1, ag_n (by omega) (by omega), sb, V'.2.2.2.1, if_pos (nI_le (Nat.le_refl _) (by omega))]) (fun fu y u hy hP => by
      have V' := hP.1.tr
      have hv : v ≤ 1 := V'.1
      obtain ⟨h1, -, -⟩ := V'.2.2.2.2.2.2.2.2.1 y hy
      obtain ⟨q1, q2, q3, -, -⟩ := hw.2.2.2.2.2.2 y hy
      right
      show ∃ u', f_X12_bridges_L9 (fu + 1) _ _ _ _ = f_X12_bridges_L9 fu _ _ _ _ ∧ _
      rw [f_X12_bridges_L9, V'.2.1, ag_n (by omega) (by omega), sb, V'.2.2.2.1, if_neg (nI_ge hy (by omega)), bit_n (by omega) (by omega), mskN_s, ep]
      cases hb : L.testBit y
      · rw [if_neg Bool.false_ne_true, if_pos rfl, lt_def, nI_1]
        exact ⟨u, rfl, hP.1, hP.2⟩
      · obtain ⟨M1, e1, f1, r1⟩ := r_fillsLit (L := L ^^^ (L &&& 2 ^ y)) (fr := τ 1 y) hw V' (by omega) (hx y)
        have R1 := hP.1.fm f1 (by decide)
        obtain ⟨-, h2, -⟩ := R1.tr.2.2.2.2.2.2.2.2.1 y hy
        have hd := ds_le (τ := τ) (fun s => (L ^^^ (L &&& 2 ^ y)).testBit s) 0 (τ 1 y) (τ 2 y)
        have hr := reach_e hw (L ^^^ (L &&& 2 ^ y)) (τ 1 y) (τ 2 y)
        rw [if_pos rfl, if_neg ne10, li 10, pk_mul, nI_add, ag_n (by omega) (by omega), sb, h1, sh1 (by omega), andc_n, e1, sb, R1.tr.2.1, pk_mul, nI_add, ag_n (by omega) (by omega), sb, h2, ag_n (by omega) (by omega), sb, r1 _ (by omega), li 1000]
        simp only [lt_def]
        rw [nI_1 y, hP.2]
        by_cases h : dsN τ (fun _ => true) (L ^^^ (L &&& 2 ^ y)) (τ 1 y) (τ 2 y) = 0
        · rw [if_pos (nI_lt' (hr.mpr h) (by omega)), h]
          exact ⟨(_, M1), rfl, R1, rfl⟩
        · have h2 : ¬ dsN τ (fun s => (L ^^^ (L &&& 2 ^ y)).testBit s) 0 (τ 1 y) (τ 2 y) < 1000 := fun z => h (hr.mp z)
          rw [if_neg (nI_nlt' (nI_le (by omega) (by omega))), or_n, or_add (mskN_lt p y), show (dsN τ (fun _ => true) (L ^^^ (L &&& 2 ^ y)) (τ 1 y) (τ 2 y) == 0) = false from beq_eq_false_iff_ne.mpr h]
          exact ⟨(_, M1), rfl, R1, rfl⟩) (0, M5) ⟨R5, rfl⟩
  refine ⟨A.1, A.2, B.2, ?_, ?_, RB.rel⟩
  · unfold f_X11_bridges f_X10_onlyWays
    rw [rT_n h9 hT.1, sb, c_lits hw hT R.2.2.2.2.1 R.2.1, sb, ← hL, show f_X10_onlyWays_L5 t FU (nI L) 0 0 M = some A from eA, sb, sb]
  · unfold f_X12_bridges
    rw [e5, sb, ← hL, show f_X12_bridges_L9 FU (nI L) 0 0 M5 = some B from eB, sb, qA, qB]

-- 52.bright: pure: brightest, moves
theorem s_brightest {M : Mem} (R : Rel M) (x1 : Int32) : OkA (f_X11_brightest x1 M) (f_X12_brightest x1 M) := by
  have R0 := R
  obtain ⟨t, v, τ, ρ, F, R⟩ := R
  have hw := R.1
  have wn := R.2.1
  have hT : TC t τ M := R.2.2.1
  have hN : NC 60 t τ ρ M := R.2.2.2.2.1
  have h9 : M.2.2 0 9 = some t := R.2.2.2.2.2.2.1.1
  have hC : tC τ ≤ 7 := hw.1
  obtain ⟨M5, e5, R5, X5, f5, -, -⟩ := R.rx
  have V5 := X5.2.2.1
  have hv : v ≤ 1 := V5.1
  obtain ⟨f, hf⟩ : ∃ f : Nat → Int32, f = fun c => nI (lgt τ ρ c) := ⟨_, rfl⟩
  have ef : ∀ c, nI (lgt τ ρ c) = f c := fun c => by rw [hf]
  have eR : f_X12_brightest_L20 FU x1 (-2) 0 M5 = some (if tC τ = 0 then -2 else nI (amx f (tC τ))) := by
    obtain ⟨a, e, q⟩ := loopQ (fun fu w (s : Int32) => f_X12_brightest_L20 fu x1 s (nI w) M5) (fun w s => s = if w = 0 then -2 else nI (amx f w)) (fun a => a = if tC τ = 0 then -2 else nI (amx f (tC τ))) (tC τ) (by omega) (fun fu s hP => by
      refine ⟨s, ?_, hP⟩
      show f_X12_brightest_L20 (fu + 1) _ _ _ _ = _
      rw [f_X12_brightest_L20, V5.2.1, ag_n (by omega) (by omega), sb, V5.2.2.1, if_pos (nI_le (Nat.le_refl _) (by omega))]) (fun fu w s hw' hP => by
      right
      show ∃ s', f_X12_brightest_L20 (fu + 1) _ _ _ _ = f_X12_brightest_L20 fu _ _ _ _ ∧ _
      rw [f_X12_brightest_L20, V5.2.1, ag_n (by omega) (by omega), sb, V5.2.2.1, if_neg (nI_ge hw' (by omega)), hP]
      by_cases hz : w = 0
      · rw [if_pos hz, if_pos (by decide), lt_def, nI_1]
        refine ⟨nI w, rfl, ?_⟩
        subst hz
        rw [if_neg (by omega), amx_s]
        split <;> rfl
      · have hm := amx_lt (f := f) (n := w) (by omega)
        rw [if_neg hz, if_neg (nI_pos (by omega)), r_light hw V5 X5.2.2.2.1 wn (by omega), sb, r_light hw V5 X5.2.2.2.1 wn (by omega), sb, ef, ef, lt_def, lt_def, nI_1]
        by_cases h : f w ≤ f (amx f w)
        · rw [if_pos h]
          refine ⟨_, rfl, ?_⟩
          rw [if_neg (by omega), amx_s, if_neg (Int32.not_lt.mpr h)]
        · rw [if_neg h]
          refine ⟨_, rfl, ?_⟩
          rw [if_neg (by omega), amx_s, if_pos (Int32.not_le.mp h)]) (-2) rfl
    rw [← q]
    exact e
  rcases eith x1 with ⟨h01, i1, i2⟩ | ⟨n0, n1, i1, i2⟩
  · by_cases hz : tC τ = 0
    · rw [if_pos hz] at eR
      refine ⟨-2, M5, ?_, ?_, R5.rel⟩
      · unfold f_X11_brightest
        rw [i2, sb, if_neg ne10, rT_n h9 hT.1, sb, hT.2.1, hz, if_pos nI_0]
      · unfold f_X12_brightest
        rw [i1, sb, if_neg ne10, e5, sb, eR, sb, if_pos (by decide)]
    · rw [if_neg hz] at eR
      have hm := amx_lt (f := f) (n := tC τ) (by omega)
      have eC : f_X3_lightestCorner 60 M = some (nI (amx f (tC τ))) := by
        obtain ⟨a, e, q⟩ := loopX (fun fu w (s : Int32) => f_X3_lightestCorner_L4 60 fu s (nI w) M) (fun w s => 0 < w ∧ s = nI (amx f w)) (fun a => a = nI (amx f (tC τ))) (tC τ) (fun fu s hP => by
          refine ⟨s, ?_, hP.2⟩
          show f_X3_lightestCorner_L4 60 (fu + 1) _ _ _ = _
          rw [f_X3_lightestCorner_L4, rT_n hN.2.1 hT.1, sb, hT.2.1, if_pos (nI_le (Nat.le_refl _) (by omega))]) (fun fu w s hw' hP => by
          have hm := amx_lt (f := f) hP.1
          right
          show ∃ s', f_X3_lightestCorner_L4 60 (fu + 1) _ _ _ = f_X3_lightestCorner_L4 60 fu _ _ _ ∧ _
          rw [f_X3_lightestCorner_L4, rT_n hN.2.1 hT.1, sb, hT.2.1, if_neg (nI_ge hw' (by omega)), hP.2, c_light hw hT hN wn (by omega), sb, c_light hw hT hN wn (by omega), sb, ef, ef, lt_def, lt_def, nI_1]
          by_cases h : f w ≤ f (amx f w)
          · rw [if_pos h]
            refine ⟨_, rfl, by omega, ?_⟩
            rw [amx_s, if_neg (Int32.not_lt.mpr h)]
          · rw [if_neg h]
            refine ⟨_, rfl, by omega, ?_⟩
            rw [amx_s, if_pos (Int32.not_le.mp h)]) (tC τ - 1) 1 FU 0 (by omega) (by show tC τ - 1 < 1000000; omega) ⟨by omega, by
              rw [amx_s]
              split <;> rfl⟩
        unfold f_X3_lightestCorner
        rw [show f_X3_lightestCorner_L4 60 FU 0 1 M = some a from e, sb, q]
      rcases h01 with rfl | rfl
      · refine ⟨nI (amx f (tC τ)), M5, ?_, ?_, R5.rel⟩
        · unfold f_X11_brightest
          rw [i2, sb, if_neg ne10, rT_n h9 hT.1, sb, hT.2.1, if_neg (nI_ne0 (by omega) (by omega)), eC, sb, if_pos rfl]
        · unfold f_X12_brightest
          rw [i1, sb, if_neg ne10, e5, sb, eR, sb, if_neg (nI_pos (by omega)), if_pos rfl]
      · refine ⟨nI (lgt τ ρ (amx f (tC τ))), M5, ?_, ?_, R5.rel⟩
        · unfold f_X11_brightest
          rw [i2, sb, if_neg ne10, rT_n h9 hT.1, sb, hT.2.1, if_neg (nI_ne0 (by omega) (by omega)), eC, sb, if_neg ne10, c_light hw hT hN wn (by omega), sb]
        · unfold f_X12_brightest
          rw [i1, sb, if_neg ne10, e5, sb, eR, sb, if_neg (nI_pos (by omega)), if_neg ne10, r_light hw V5 X5.2.2.2.1 wn (by omega), sb]
  · refine ⟨-1, M, ?_, ?_, R0⟩
    · unfold f_X11_brightest
      rw [i2, sb, if_pos rfl]
    · unfold f_X12_brightest
      rw [i1, sb, if_pos rfl]
theorem andc_n (a b : Nat) : nI a &&& (nI b ^^^ (-1)) = nI (a ^^^ (a &&& b)) := by
  apply Int32.toBitVec_inj.mp
  show BitVec.ofNat 32 a &&& (BitVec.ofNat 32 b ^^^ BitVec.allOnes 32) = BitVec.ofNat 32 (a ^^^ (a &&& b))
  apply BitVec.eq_of_getLsbD_eq
  intro i hi
  simp only [BitVec.getLsbD_and, BitVec.getLsbD_xor, BitVec.getLsbD_ofNat, BitVec.getLsbD_allOnes, Nat.testBit_xor, Nat.testBit_and, hi, decide_true, Bool.true_and]
  cases a.testBit i <;> cases b.testBit i <;> rfl
theorem xor_z {a b : Nat} : a ^^^ (a &&& b) = 0 ↔ a &&& b = a := by
  constructor
  · intro h
    apply Nat.eq_of_testBit_eq
    intro i
    have := congrArg (fun z => Nat.testBit z i) h
    simp only [Nat.testBit_xor, Nat.testBit_and, Nat.zero_testBit] at this
    rw [Nat.testBit_and]
    revert this
    cases a.testBit i <;> cases b.testBit i <;> simp
  · intro h
    rw [h, Nat.xor_self]
theorem sub_iff {a b : Nat} : a &&& b = a ↔ ∀ j, a.testBit j = true → b.testBit j = true := by
  constructor
  · intro h j hj
    have := congrArg (fun z => Nat.testBit z j) h
    simp only [Nat.testBit_and, hj, Bool.true_and] at this
    exact this
  · intro h
    apply Nat.eq_of_testBit_eq
    intro j
    rw [Nat.testBit_and]
    cases e : a.testBit j
    · rfl
    · rw [h j e]
      rfl
theorem dis_iff {a b : Nat} : a &&& b = 0 ↔ ∀ j, a.testBit j = true → b.testBit j = false := by
  constructor
  · intro h j hj
    have := congrArg (fun z => Nat.testBit z j) h
    simp only [Nat.testBit_and, hj, Bool.true_and, Nat.zero_testBit] at this
    exact this
  · intro h
    apply Nat.eq_of_testBit_eq
    intro j
    rw [Nat.testBit_and, Nat.zero_testBit]
    cases e : a.testBit j
    · rfl
    · rw [h j e]
      rfl
theorem sumN_x {f : Nat → Nat} {n : Nat} : ∀ {m : Nat}, n ≤ m → (∀ k, n ≤ k → k < m → f k = 0) → sumN f m = sumN f n
  | 0, h, _ => by rw [show n = 0 by omega]
  | m + 1, h, hz => by
    by_cases e : n = m + 1
    · rw [e]
    · rw [sumN_s, sumN_x (by omega) (fun k a b => hz k a (by omega)), hz m (by omega) (by omega), Nat.add_zero]
theorem lt_pow_bit {a n j : Nat} (h : a < 2 ^ n) (hj : a.testBit j = true) : j < n := by
  by_cases h2 : j < n
  · exact h2
  · rw [Nat.testBit_lt_two_pow (Nat.lt_of_lt_of_le h (Nat.pow_le_pow_right (by decide) (by omega)))] at hj
    cases hj

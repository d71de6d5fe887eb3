-- 27.hold: pure: hold, restore, undo
theorem msk_set {p : Nat → Bool} {n s : Nat} (hs : s < n) : mskN p n ||| 2 ^ s = mskN (fun k => p k || k == s) n := by
  apply Nat.eq_of_testBit_eq
  intro j
  rw [Nat.testBit_or, mskN_bit, mskN_bit, Nat.testBit_two_pow]
  by_cases h : s = j
  · subst h; simp [hs]
  · have h2 : (j == s) = false := beq_eq_false_iff_ne.mpr (Ne.symm h)
    simp [h, h2]
theorem rh_L {M : Mem} {s : Nat} (hs : s < 3) : f_X12_hold_L20 FU (nI s) 0 M = some (cpM M 103 117 0 (48 * s) 48) := by
  have h := loop0 (fun fu y => f_X12_hold_L20 fu (nI s) (nI y) (cpM M 103 117 0 (48 * s) y)) (some (cpM M 103 117 0 (48 * s) 48)) 48 (by omega) (fun fu => ?_) (fun fu y hy => ?_)
  · rw [cpM_0] at h
    exact h
  · show f_X12_hold_L20 (fu + 1) _ _ _ = _
    rw [f_X12_hold_L20, li 48, if_pos (nI_le (Nat.le_refl _) (by omega))]
  · show f_X12_hold_L20 (fu + 1) _ _ _ = f_X12_hold_L20 fu _ _ _
    rw [f_X12_hold_L20, li 48, if_neg (nI_ge hy (by omega)), ag_n (by omega) (by omega), sb, pk_mul, nI_add, pg_n (by omega) (by omega), sb, lt_def, nI_1, cp_cell (by decide)]
    have := cpM_s (M := M) (a := 103) (b := 117) (sp := 0) (dp := 48 * s) (y := y)
    rw [Nat.zero_add] at this
    rw [this]
theorem rr_L {M : Mem} {s : Nat} (hs : s < 3) : f_X12_restore_L22 FU (nI s) 0 M = some (cpM M 117 103 (48 * s) 0 48) := by
  have h := loop0 (fun fu y => f_X12_restore_L22 fu (nI s) (nI y) (cpM M 117 103 (48 * s) 0 y)) (some (cpM M 117 103 (48 * s) 0 48)) 48 (by omega) (fun fu => ?_) (fun fu y hy => ?_)
  · rw [cpM_0] at h
    exact h
  · show f_X12_restore_L22 (fu + 1) _ _ _ = _
    rw [f_X12_restore_L22, li 48, if_pos (nI_le (Nat.le_refl _) (by omega))]
  · show f_X12_restore_L22 (fu + 1) _ _ _ = f_X12_restore_L22 fu _ _ _
    rw [f_X12_restore_L22, li 48, if_neg (nI_ge hy (by omega)), pk_mul, nI_add, ag_n (by omega) (by omega), sb, pg_n (by omega) (by omega), sb, lt_def, nI_1, cp_cell (by decide)]
    have := cpM_s (M := M) (a := 117) (b := 103) (sp := 48 * s) (dp := 0) (y := y)
    rw [Nat.zero_add] at this
    rw [this]
theorem ru_L {M : Mem} {q : Nat} (hq : q < 40) (h60 : M.1 67 60 = nI q) : f_X12_undo_L21 FU 0 M = some (cpM M 108 103 (48 * q) 0 48) := by
  have h := loop0 (fun fu y => f_X12_undo_L21 fu (nI y) (cpM M 108 103 (48 * q) 0 y)) (some (cpM M 108 103 (48 * q) 0 48)) 48 (by omega) (fun fu => ?_) (fun fu y hy => ?_)
  · rw [cpM_0] at h
    exact h
  · show f_X12_undo_L21 (fu + 1) _ _ = _
    rw [f_X12_undo_L21, li 48, if_pos (nI_le (Nat.le_refl _) (by omega))]
  · show f_X12_undo_L21 (fu + 1) _ _ = f_X12_undo_L21 fu _ _
    have e : (cpM M 108 103 (48 * q) 0 y).1 67 60 = nI q := by rw [cp_cell (by decide)]; exact h60
    rw [f_X12_undo_L21, li 48, if_neg (nI_ge hy (by omega)), e, pk_mul, nI_add, ag_n (by omega) (by omega), sb, pg_n (by omega) (by omega), sb, lt_def, nI_1, cp_cell (by decide)]
    have := cpM_s (M := M) (a := 108) (b := 103) (sp := 48 * q) (dp := 0) (y := y)
    rw [Nat.zero_add] at this
    rw [this]
theorem in3 {x : Int32} (h : x < 0 ∨ nI 3 ≤ x) : f_X12_in x 0 2 = some 0 := in_o (n := 3) (by omega) h
theorem in3i {s : Nat} (h : s < 3) : f_X12_in (nI s) 0 2 = some 1 := in_i (n := 3) h (by omega)
theorem nI_lt' {a b : Nat} (h : a < b) (hb : b < 2 ^ 31) : nI a < nI b := by
  apply Int32.lt_iff_toInt_lt.mpr
  rw [nI_toInt (by omega), nI_toInt (by omega)]
  omega
theorem nI_nlt' {x : Int32} {b : Nat} (h : nI b ≤ x) : ¬ x < nI b := fun z => by
  have z1 := Int32.lt_iff_toInt_lt.mp z
  have z2 := Int32.le_iff_toInt_le.mp h
  omega
theorem s_hold {M : Mem} (R : Rel M) (x : Int32) : OkB (f_X11_hold x M) (f_X12_hold x) := by
  have R0 := R
  obtain ⟨t, v, τ, ρ, F, R⟩ := R
  have hw := R.1
  have hN : NC 60 t τ ρ M := R.2.2.2.2.1
  have hM : NR 103 τ ρ M := R.2.2.2.2.2.1
  obtain ⟨p, p1, p2⟩ := R.2.2.2.2.2.2.2.2.1
  rcases ar_in x (n := 3) (by omega) with h | ⟨s, hs, rfl⟩
  · refine ⟨0, M, M, ?_, ?_, R0⟩
    · unfold f_X11_hold f_X4_keepIn
      by_cases h0 : x < 0
      · rw [if_pos h0, sb, zc_0]
      · rw [if_neg h0, li 3, if_neg (nI_nlt' (h.resolve_left h0)), sb, zc_0]
    · unfold f_X12_hold
      rw [in3 h, sb, if_pos rfl]
  · let W : Mem := wrM M 59 (38 * s) (nB M) 38
    have w57 : W.1 57 1 = nI (mskN p 3) := (congrFun (wr_cell (by decide)) 1).trans p1
    let M1 : Mem := sI W 57 1 (nI (mskN (fun k => p k || k == s) 3))
    let M2 : Mem := cpM (sI M1 116 s 1) 103 117 0 (48 * s) 48
    refine ⟨1, M1, M2, ?_, ?_, ?_⟩
    · unfold f_X11_hold f_X4_keepIn
      rw [if_neg (nI_pos (by omega)), li 3, if_pos (nI_lt' hs (by omega)), c_write (by omega) (by omega) (by omega), sb, lt_def]
      show (some ((1 : Int32), sI W 57 1 (W.1 57 1 ||| _))).bind _ = _
      rw [w57, sh1 (by omega), or_n, msk_set hs, sb, zc_1]
    · unfold f_X12_hold
      rw [in3i hs, sb, if_neg ne10, pz_n (by omega) (by omega), sb, show vp_nar .boolean (1 : Int32) = 1 from rfl, rh_L hs, sb]
    · have k : KpX [57, 59, 116, 117] [] M M2 := KpX.tr (KpX.tr (KpX.tr (KpX.wr (by decide) (by decide)) (KpX.set (by decide) (by decide))) (KpX.set (by decide) (by decide))) (KpX.cpy (by decide) (by decide))
      have c57 : M2.1 57 = (sI W 57 1 (nI (mskN (fun k => p k || k == s) 3))).1 57 := by
        show (cpM (sI M1 116 s 1) 103 117 0 (48 * s) 48).1 57 = _
        rw [cp_cell (by decide), sI_cell (by decide)]
      have c59 : M2.1 59 = W.1 59 := by
        show (cpM (sI M1 116 s 1) 103 117 0 (48 * s) 48).1 59 = _
        rw [cp_cell (by decide), sI_cell (by decide)]
        exact sI_cell (by decide)
      have c116 : M2.1 116 = (sI M1 116 s 1).1 116 := cp_cell (by decide)
      have c117 : ∀ j, M2.1 117 j = if 117 = 117 ∧ 48 * s ≤ j ∧ j < 48 * s + 48 then M.1 103 (0 + (j - 48 * s)) else M.1 117 j := fun j => by
        show (cpM (sI M1 116 s 1) 103 117 0 (48 * s) 48).1 117 j = _
        rw [cp1, sI_cell (by decide), sI_cell (by decide)]
        rfl
      have f57 : ∀ i, i ≠ 1 → M2.1 57 i = M.1 57 i := fun i hi => by
        rw [c57, sI_ix hi]
        exact congrFun (wr_cell (by decide)) i
      refine ⟨t, v, τ, ρ, F, R.kx (ρ' := ρ) k (by decide) (by decide) (by decide) (by decide) R.2.1 (hN.kx k (by decide)) (hM.kx k (by decide)) (R.2.2.2.2.2.2.2.1.of (f57 0 (by decide)) (f57 4 (by decide)) (k.2.1 60 (by decide) (by decide) (by decide) (by decide)) (k.1 58 (by decide) (by decide)) (k.1 108 (by decide) (by decide))) ?_ (R.2.2.2.2.2.2.2.2.2.1.kx k (by decide) (by decide)) (R.2.2.2.2.2.2.2.2.2.2.1.kx k (by decide) (by decide)) (R.2.2.2.2.2.2.2.2.2.2.2.2.2.1.kx k (by decide))⟩
      refine ⟨fun k => p k || k == s, by rw [c57, sI_same], fun q hq => ⟨?_, fun hp => ?_⟩⟩
      · rw [c116]
        by_cases e : q = s
        · subst e
          rw [sI_same]
          simp
        · rw [sI_ix e]
          have : M1.1 116 q = M.1 116 q := (congrFun (sI_cell (by decide)) q).trans (congrFun (wr_cell (by decide)) q)
          rw [this, (p2 q hq).1]
          simp [e]
      · by_cases e : q = s
        · subst e
          refine ⟨ρ, R.2.1, ?_, ?_⟩
          · exact (RC.wr hw hN).kp c59
          · refine RR.to hM (fun k hk => ?_)
            rw [c117, if_pos ⟨rfl, by omega, by omega⟩, show 0 + (48 * q + k - 48 * q) = k by omega]
        · have hp' : p q = true := by simpa [e] using hp
          obtain ⟨ρ', b1, b2, b3⟩ := (p2 q hq).2 hp'
          refine ⟨ρ', b1, b2.of hw (fun k hk => ?_), b3.of (fun k hk => ?_)⟩
          · rw [c59]
            exact wr_out (by omega)
          · rw [c117, if_neg (by omega)]
theorem RelP.stale {t v : Nat} {τ : Nat → Nat → Nat} {ρ : Nat → Nat} {F : Nat → (Nat → Int32) → Int32} {M : Mem} (h : RelP t v τ ρ F M) : RelP t v τ ρ F (sI M 48 2 1) := by
  have k : KpX [48] [] M (sI M 48 2 1) := KpX.set (by decide) (by decide)
  exact h.kx k (by decide) (by decide) (by decide) (by decide) h.2.1 (h.2.2.2.2.1.kx k (by decide)) (h.2.2.2.2.2.1.kx k (by decide)) (h.2.2.2.2.2.2.2.1.kx k (by decide) (by decide)) (h.2.2.2.2.2.2.2.2.1.kx k (by decide)) (h.2.2.2.2.2.2.2.2.2.1.kx k (by decide) (by decide)) (h.2.2.2.2.2.2.2.2.2.2.1.kx k (by decide) (by decide)) (Or.inl sI_same)
theorem KpX.bk {X XF : List Nat} {M : Mem} {a o : Nat} (hX : ∀ c ∈ [60, 61, 62, 63, 64, 65, 66], c ∈ X) : KpX X XF M (bkM M a o) := by
  refine ⟨fun c _ hc => bk_cell ?_, fun k _ _ _ _ => by rw [bk_cell (by omega)], rfl, fun _ _ => rfl⟩
  by_cases h : c < 60 ∨ 66 < c
  · exact h
  · exfalso
    apply hc
    apply hX
    have : c = 60 ∨ c = 61 ∨ c = 62 ∨ c = 63 ∨ c = 64 ∨ c = 65 ∨ c = 66 := by omega
    rcases this with rfl | rfl | rfl | rfl | rfl | rfl | rfl <;> decide
theorem s_restore {M : Mem} (R : Rel M) (x : Int32) : OkB (f_X11_restore x M) (f_X12_restore x) := by
  obtain ⟨t, v, τ, ρ, F, R⟩ := R
  have R := R.stale
  unfold f_X11_restore
  rw [lt_def]
  have e48 : (sI M 48 2 1).1 48 2 = 1 := sI_same
  generalize sI M 48 2 1 = M at R e48
  have hw := R.1
  obtain ⟨p, p1, p2⟩ := R.2.2.2.2.2.2.2.2.1
  obtain ⟨q0, x0, -, hx0, -, q4, -, -⟩ := R.2.2.2.2.2.2.2.1
  rcases ar_in x (n := 3) (by omega) with h | ⟨s, hs, rfl⟩
  · refine ⟨0, M, M, ?_, ?_, t, v, τ, ρ, F, R⟩
    · unfold f_X4_takeFrom
      by_cases h0 : x < 0
      · rw [if_pos h0, sb, zc_0]
      · rw [if_neg h0, li 3, if_pos (h.resolve_left h0), sb, zc_0]
    · unfold f_X12_restore
      rw [in3 h, sb, if_pos rfl]
  · have hb : (nI (mskN p 3) >>> (nI s &&& 31)) &&& (1 : Int32) = if p s then 1 else 0 := by
      rw [bit_n (Nat.lt_of_lt_of_le (mskN_lt _ 3) (by decide)) (by omega), mskN_bit]
      simp only [hs, decide_true, Bool.true_and]
    obtain ⟨r1, r2⟩ := p2 s hs
    cases hp : p s
    · rw [hp, if_neg Bool.false_ne_true] at hb r1
      refine ⟨0, M, M, ?_, ?_, t, v, τ, ρ, F, R⟩
      · unfold f_X4_takeFrom
        rw [if_neg (nI_pos (by omega)), li 3, if_neg (nI_ge hs (by omega)), p1, hb, if_pos rfl, sb, zc_0]
      · unfold f_X12_restore
        rw [in3i hs, sb, if_neg ne10, ag_n (by omega) (by omega), sb, r1, if_pos rfl]
    · rw [hp, if_pos rfl] at hb r1
      obtain ⟨ρ', b1, b2, b3⟩ := r2 hp
      let M1 : Mem := sI (bkM M 59 (38 * s)) 57 0 0
      let M2 : Mem := sI (cpM M1 117 103 (48 * s) 0 48) 67 60 0
      refine ⟨1, M1, M2, ?_, ?_, ?_⟩
      · unfold f_X4_takeFrom
        rw [if_neg (nI_pos (by omega)), li 3, if_neg (nI_ge hs (by omega)), p1, hb, if_neg ne10, c_back (by omega) (by omega) (by omega), sb, lt_def, sb, zc_1]
      · unfold f_X12_restore
        have e1 : M1.1 116 s = 1 := (congrFun ((sI_cell (by decide)).trans (bk_cell (by omega))) s).trans r1
        rw [in3i hs, sb, if_neg ne10, ag_n (by omega) (by omega), sb, e1, if_neg ne10, rr_L hs, sb, lt_def]
      · have k : KpX [57, 60, 61, 62, 63, 64, 65, 66, 103] [60] M M2 := KpX.tr (KpX.tr (KpX.tr (KpX.bk (by decide)) (KpX.set (by decide) (by decide))) (KpX.cpy (by decide) (by decide))) (KpX.fld (by decide))
        have c57 : M2.1 57 = M1.1 57 := (sI_cell (by decide)).trans (cp_cell (by decide))
        have f57 : ∀ i, i ≠ 0 → M2.1 57 i = M.1 57 i := fun i hi => by
          rw [c57]
          exact (sI_ix hi).trans (congrFun (bk_cell (by omega)) i)
        have cN : ∀ c, 60 ≤ c → c ≤ 66 → M2.1 c = (bkM M 59 (38 * s)).1 c := fun c h1 h2 => (sI_cell (by omega)).trans ((cp_cell (by omega)).trans (sI_cell (by omega)))
        have nc : NC 60 t τ ρ' M2 := by
          have := NC.bk (t := t) hw b2 (by omega) R.2.2.2.2.1.2.1
          unfold NC at this ⊢
          rw [cN 60 (by omega) (by omega), cN (60 + 1) (by omega) (by omega), cN (60 + 2) (by omega) (by omega), cN (60 + 3) (by omega) (by omega), cN (60 + 4) (by omega) (by omega), cN (60 + 5) (by omega) (by omega), cN (60 + 6) (by omega) (by omega)]
          exact this
        have nr : NR 103 τ ρ' M2 := NR.to b3 (fun k hk => by
          show (sI (cpM M1 117 103 (48 * s) 0 48) 67 60 0).1 103 k = _
          rw [sI_cell (by decide), cp1, if_pos ⟨rfl, by omega, by omega⟩, Nat.sub_zero]
          exact congrFun ((sI_cell (by decide)).trans (bk_cell (by omega))) _)
        have pa : PastR τ M2 := ⟨0, x0, by omega, hx0, by rw [c57]; exact sI_same, (f57 4 (by decide)).trans q4, sI_same, fun j hj => absurd hj (by omega)⟩
        exact ⟨t, v, τ, ρ', F, R.kx (ρ' := ρ') k (by decide) (by decide) (by decide) (by decide) b1 nc nr pa (R.2.2.2.2.2.2.2.2.1.of (f57 1 (by decide)) (k.1 59 (by decide) (by decide)) (k.1 116 (by decide) (by decide)) (k.1 117 (by decide) (by decide))) (R.2.2.2.2.2.2.2.2.2.1.kx k (by decide) (by decide)) (R.2.2.2.2.2.2.2.2.2.2.1.kx k (by decide) (by decide)) (Or.inl (by rw [k.1 48 (by decide) (by decide)]; exact e48))⟩

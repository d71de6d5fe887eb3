-- 61.rounds: pure: round
section RNF
variable {F : Nat → (Nat → Int32) → Int32} {τ : Nat → Nat → Nat} {ρ : Nat → Nat} {t v : Nat} {M : Mem} {D : Nat → Nat → Nat}
theorem c_rf (hD : ∀ p c, D p c ≤ 1000) {n : Nat} (hn : n ≤ 7) (h47 : ∀ p c, p < n → c < 7 → M.1 47 (p * 7 + c) = nI (D p c)) : ∀ k q d p left, cnN 7 (deN left (2 ^ p)) ≤ k → k + d ≤ 7 → k < q → p < n → left < 2 ^ 7 → (∀ c, left.testBit c = true → c < n) → n_X10_roundFrom q (nI p) (nI left) (nI d) M = some (nI (rH D k p (deN left (2 ^ p))))
  | 0, q, d, p, left, hk, hd, hq, hp, hl, hb => by
    obtain ⟨q', rfl⟩ : ∃ q', q = q' + 1 := ⟨q - 1, by omega⟩
    have hz : deN left (2 ^ p) = 0 := cn_0 (de_lt hl) (by omega)
    have hz' : left ^^^ (left &&& 2 ^ p) = 0 := hz
    show g_X10_roundFrom (n_X10_roundFrom q') (nI p) (nI left) (nI d) M = _
    unfold g_X10_roundFrom
    rw [sh1 (by omega), andc_n, lt_def, hz', if_pos nI_0]
    rfl
  | k + 1, q, d, p, left, hk, hd, hq, hp, hl, hb => by
    obtain ⟨q', rfl⟩ : ∃ q', q = q' + 1 := ⟨q - 1, by omega⟩
    obtain ⟨X, hX⟩ : ∃ X, X = deN left (2 ^ p) := ⟨_, rfl⟩
    have hXl : X < 2 ^ 7 := by rw [hX]; exact de_lt hl
    have hX' : left ^^^ (left &&& 2 ^ p) = X := hX.symm
    have hXb : ∀ c, X.testBit c = true → c < n := fun c hc => hb c (by
      rw [hX, de_bit] at hc
      cases h : left.testBit c
      · rw [h] at hc; cases hc
      · rfl)
    rw [← hX] at hk ⊢
    show g_X10_roundFrom (n_X10_roundFrom q') (nI p) (nI left) (nI d) M = _
    unfold g_X10_roundFrom
    rw [sh1 (by omega), andc_n, lt_def, hX']
    show _ = some (nI (if X = 0 then 0 else mnF (fun c => X.testBit c) (fun c => D p c + rH D k c (deN X (2 ^ c))) 1000 7))
    by_cases hz : X = 0
    · rw [hz, if_pos nI_0, if_pos rfl]
      rfl
    · rw [if_neg (nI_ne0 (by omega) (by omega)), if_neg hz, li 7, if_pos (nI_le (by omega) (by omega))]
      have key : f_X10_roundFrom_L30 (n_X10_roundFrom q') FU (nI p) (nI d) (nI X) 1000 0 M = some (nI (mnF (fun c => X.testBit c) (fun c => D p c + rH D k c (deN X (2 ^ c))) 1000 7)) := by
        refine loop0 (fun fu c => f_X10_roundFrom_L30 (n_X10_roundFrom q') fu (nI p) (nI d) (nI X) (nI (mnF (fun c => X.testBit c) (fun c => D p c + rH D k c (deN X (2 ^ c))) 1000 c)) (nI c) M) _ 7 (by omega) (fun fu => ?_) (fun fu c hc => ?_)
        · show f_X10_roundFrom_L30 _ (fu + 1) _ _ _ _ _ _ = _
          rw [f_X10_roundFrom_L30, li 7, if_pos (nI_le (Nat.le_refl _) (by omega))]
        · show f_X10_roundFrom_L30 _ (fu + 1) _ _ _ _ _ _ = f_X10_roundFrom_L30 _ fu _ _ _ _ _ _
          have m1 := mf_x (p := fun c => X.testBit c) (f := fun c => D p c + rH D k c (deN X (2 ^ c))) (x := 1000) c
          rw [f_X10_roundFrom_L30, li 7, if_neg (nI_ge hc (by omega)), bit_n (by omega) (by omega), mf_s]
          generalize mnF (fun c => X.testBit c) (fun c => D p c + rH D k c (deN X (2 ^ c))) 1000 c = m at m1
          by_cases hbit : X.testBit c = true
          · have hd1 := hD p c
            have hr := rH_le (D := D) k c (deN X (2 ^ c))
            have hcn := hXb c hbit
            have hdc := de_cn hc hbit
            have ih := c_rf hD hn h47 k q' (d + 1) c X (by omega) (by omega) (by omega) hcn hXl hXb
            rw [if_pos hbit, if_pos rfl, pk_mul, nI_add, ag_n (by omega) (by omega), sb, h47 p c hp hc]
            have e1 : (if nI (D p c) < nI m then (n_X10_roundFrom q' (nI c) (nI X) (nI d + (1 : Int32)) M).bind fun v10 => lt (if nI (D p c) + v10 < nI m then nI (D p c) + v10 else nI m : Int32) fun v11 => some v11 else some (nI m)) = some (nI (if X.testBit c = true ∧ D p c + rH D k c (deN X (2 ^ c)) < m then D p c + rH D k c (deN X (2 ^ c)) else m)) := by
              by_cases h : D p c < m
              · rw [if_pos (nI_lt' h (by omega)), nI_1, ih, sb, nI_add, c_min (by omega) (by omega), lt_def]
                by_cases h2 : D p c + rH D k c (deN X (2 ^ c)) < m
                · rw [if_pos h2, if_pos ⟨hbit, h2⟩]
                · rw [if_neg h2, if_neg (fun z => h2 z.2)]
              · rw [if_neg (nI_nlt' (nI_le (by omega) (by omega))), if_neg (fun z => h (by omega))]
            rw [e1, sb, lt_def, nI_1]
          · rw [if_neg hbit, if_neg (show ¬ (0 : Int32) = 1 by decide), lt_def, nI_1, if_neg (fun z => hbit z.1)]
      rw [key, sb]
theorem use_7 (hw : wfT τ) (wn : wfN τ ρ) : mskN (useB τ ρ (tY τ)) 7 = mskN (useB τ ρ (tY τ)) (tC τ) ∧ ∀ c, (mskN (useB τ ρ (tY τ)) 7).testBit c = true → c < tC τ := by
  have hC : tC τ ≤ 7 := hw.1
  have e : mskN (useB τ ρ (tY τ)) 7 = mskN (useB τ ρ (tY τ)) (tC τ) := by
    apply Nat.eq_of_testBit_eq
    intro j
    rw [mskN_bit, mskN_bit]
    by_cases h1 : j < tC τ
    · simp [h1, show j < 7 by omega]
    · have h2 : useB τ ρ (tY τ) j = false := by
        unfold useB
        rw [List.any_eq_false]
        intro y hy
        have := wn.1 y (List.mem_range.mp hy)
        have h3 : (ρ y == j) = false := beq_eq_false_iff_ne.mpr (by omega)
        simp [h3]
      simp [h1, h2]
  refine ⟨e, fun c hc => ?_⟩
  rw [e, mskN_bit] at hc
  simp only [Bool.and_eq_true, decide_eq_true_eq] at hc
  exact hc.1
def dN (τ : Nat → Nat → Nat) (p c : Nat) : Nat := dsN τ (fun _ => true) 0 p c
theorem c_between (R : RelP t v τ ρ F M) (x2 x3 : Int32) : ∃ M', f_X10_shortestRound_L3 t FU x2 x3 0 M = some M' ∧ RelP t v τ ρ F M' ∧ ∀ p c, p < tC τ → c < 7 → M'.1 47 (p * 7 + c) = nI (dN τ p c) := by
  have hw := R.1
  have hC : tC τ ≤ 7 := hw.1
  obtain ⟨A, eA, RA, qA⟩ := loopQ (fun fu y (s : Mem) => f_X10_shortestRound_L3 t fu x2 x3 (nI y) s) (fun y s => RelP t v τ ρ F s ∧ ∀ p c, p < y → c < 7 → s.1 47 (p * 7 + c) = nI (dN τ p c)) (fun s => RelP t v τ ρ F s ∧ ∀ p c, p < tC τ → c < 7 → s.1 47 (p * 7 + c) = nI (dN τ p c)) (tC τ) (by omega) (fun fu s hP => by
      refine ⟨s, ?_, hP⟩
      show f_X10_shortestRound_L3 t (fu + 1) _ _ _ _ = _
      rw [f_X10_shortestRound_L3, hP.1.2.2.1.2.1, if_pos (nI_le (Nat.le_refl _) (by omega))]) (fun fu y s hy hP => by
      obtain ⟨M1, e1, f1, r1⟩ := c_meas hw hP.1.2.2.1 hy (free := 0) (by omega)
      have R1 := hP.1.f46 f1
      right
      refine ⟨cpM M1 46 47 0 (y * 7) 7, ?_, R1.kp ((FrC.cpy (S := [47]) (by decide)).kp (by decide)), fun p c hp hc => ?_⟩
      · show f_X10_shortestRound_L3 t (fu + 1) _ _ _ _ = f_X10_shortestRound_L3 t fu _ _ _ _
        rw [f_X10_shortestRound_L3, hP.1.2.2.1.2.1, if_neg (nI_ge hy (by omega)), show f_X10_measure t (nI y) 0 s = some M1 from e1, sb, li 7, pk_mul, show (0 : Int32) = nI 0 from rfl, cp_n (by omega) (by omega) (by omega) (by omega), sb, lt_def, nI_1]
      · rw [cp1]
        by_cases e : p = y
        · rw [if_pos ⟨rfl, by omega, by omega⟩, show 0 + (p * 7 + c - y * 7) = c by omega, r1 c hc, e]
          rfl
        · rw [if_neg (by omega), f1.1 47 (by decide)]
          exact hP.2 p c (by omega) hc) M ⟨R, fun p c hp => absurd hp (by omega)⟩
  exact ⟨A, eA, RA, qA⟩
theorem r_copy7 {x1 : Int32} {c : Nat} (hc : c < 7) : f_X12_round_L59 FU x1 (nI c) 0 M = some (cpM M 110 112 0 (7 * c) 7) := by
  have h := loop0 (fun fu y => f_X12_round_L59 fu x1 (nI c) (nI y) (cpM M 110 112 0 (7 * c) y)) (some (cpM M 110 112 0 (7 * c) 7)) 7 (by omega) (fun fu => ?_) (fun fu y hy => ?_)
  · rw [cpM_0] at h
    exact h
  · show f_X12_round_L59 (fu + 1) _ _ _ _ = _
    rw [f_X12_round_L59, li 7, if_pos (nI_le (Nat.le_refl _) (by omega))]
  · show f_X12_round_L59 (fu + 1) _ _ _ _ = f_X12_round_L59 fu _ _ _ _
    rw [f_X12_round_L59, li 7, if_neg (nI_ge hy (by omega)), ag_n (by omega) (by omega), sb, cp_cell (by decide), pk_mul, nI_add, pg_n (by omega) (by omega), sb, lt_def, nI_1]
    have := cpM_s (M := M) (a := 110) (b := 112) (sp := 0) (dp := 7 * c) (y := y)
    rw [Nat.zero_add] at this
    rw [this]
theorem r_between (X : RX v τ ρ F M) (R : RelP t v τ ρ F M) : ∃ M', f_X12_round_L23 FU 0 0 M = some (nI (mskN (useB τ ρ (tY τ)) (tC τ)), M') ∧ RX v τ ρ F M' ∧ RelP t v τ ρ F M' ∧ ∀ p c, p < tC τ → c < 7 → M'.1 112 (7 * p + c) = nI (dN τ p c) := by
  have hw := R.1
  have wn := R.2.1
  have hC : tC τ ≤ 7 := hw.1
  have hY : tY τ ≤ 6 := hw.2.2.1
  have hv : v ≤ 1 := R.tr.1
  obtain ⟨A, eA, q0, XA, RA, qA⟩ := loopQ (fun fu y (s : Int32 × Mem) => f_X12_round_L23 fu s.1 (nI y) s.2) (fun y s => s.1 = nI (mskN (useB τ ρ (tY τ)) y) ∧ RX v τ ρ F s.2 ∧ RelP t v τ ρ F s.2 ∧ ∀ p c, p < y → c < 7 → s.2.1 112 (7 * p + c) = nI (dN τ p c)) (fun s => s.1 = nI (mskN (useB τ ρ (tY τ)) (tC τ)) ∧ RX v τ ρ F s.2 ∧ RelP t v τ ρ F s.2 ∧ ∀ p c, p < tC τ → c < 7 → s.2.1 112 (7 * p + c) = nI (dN τ p c)) (tC τ) (by omega) (fun fu s hP => by
      have V' := hP.2.1.2.2.1
      refine ⟨s, ?_, hP⟩
      show f_X12_round_L23 (fu + 1) _ _ _ = _
      rw [f_X12_round_L23, V'.2.1, ag_n (by omega) (by omega), sb, V'.2.2.1, if_pos (nI_le (Nat.le_refl _) (by omega))]) (fun fu y s hy hP => by
      obtain ⟨p0, X', R', p3⟩ := hP
      have V' := X'.2.2.1
      obtain ⟨M1, e1, f1, r1⟩ := r_far (x3 := 0) (op := fun _ => true) (free := 0) (fr := y) hw V' (by omega) (by omega) sh_0
      have f2 : FrM [112] M1 (cpM M1 110 112 0 (7 * y) 7) := FrM.cpy (by decide) (by decide)
      have hwl : whoN τ ρ y < 2 ^ 6 := Nat.lt_of_lt_of_le (mskN_lt _ _) (Nat.pow_le_pow_right (by decide) hY)
      have en : (if nI (whoN τ ρ y) = 0 then s.1 else lt (s.1 ||| ((1 : Int32) <<< (nI y &&& 31)) : Int32) fun v11 => v11) = nI (mskN (useB τ ρ (tY τ)) (y + 1)) := by
        rw [mskN_s, use_e, p0]
        by_cases h : whoN τ ρ y = 0
        · have h' : mskN (whoB ρ y) (tY τ) = 0 := h
          rw [h, if_pos nI_0, h']
          rfl
        · have h' : (mskN (whoB ρ y) (tY τ) == 0) = false := beq_eq_false_iff_ne.mpr h
          rw [if_neg (nI_ne0 (by omega) (by omega)), h', lt_def, msk_or (by omega)]
          rfl
      right
      refine ⟨(nI (mskN (useB τ ρ (tY τ)) (y + 1)), cpM M1 110 112 0 (7 * y) 7), ?_, rfl, (X'.fr f1 (by decide)).fr f2 (by decide), (R'.fm f1 (by decide)).fm f2 (by decide), fun p c hp hc => ?_⟩
      · show f_X12_round_L23 (fu + 1) _ _ _ = f_X12_round_L23 fu _ _ _
        rw [f_X12_round_L23, V'.2.1, ag_n (by omega) (by omega), sb, V'.2.2.1, if_neg (nI_ge hy (by omega)), r_who hw V' X'.2.2.2.1 wn (by omega), sb, en, lt_def, show f_X12_fillsFar (nI y) 0 0 s.2 = some M1 from e1, sb, r_copy7 (by omega), sb, lt_def, nI_1]
      · show (cpM M1 110 112 0 (7 * y) 7).1 112 (7 * p + c) = _
        rw [cp1]
        by_cases e : p = y
        · rw [if_pos ⟨rfl, by omega, by omega⟩, show 0 + (7 * p + c - 7 * y) = c by omega, r1 c hc, e]
          rfl
        · rw [if_neg (by omega), f1.1 112 (by decide) (by decide)]
          exact p3 p c (by omega) hc) (0, M) ⟨rfl, X, R, fun p c hp => absurd hp (by omega)⟩
  refine ⟨A.2, ?_, XA, RA, qA⟩
  rw [show f_X12_round_L23 FU 0 0 M = some A from eA, ← q0]
theorem r_fill1k {x1 x2 : Int32} : f_X12_round_L104 FU x1 x2 0 M = some (wrM M 111 0 (fun _ => 1000) 896) := by
  have h := loop0 (fun fu y => f_X12_round_L104 fu x1 x2 (nI y) (wrM M 111 0 (fun _ => 1000) y)) (some (wrM M 111 0 (fun _ => 1000) 896)) 896 (by omega) (fun fu => ?_) (fun fu y hy => ?_)
  · rw [wr_0] at h
    exact h
  · show f_X12_round_L104 (fu + 1) _ _ _ _ = _
    rw [f_X12_round_L104, li 896, if_pos (nI_le (Nat.le_refl _) (by omega))]
  · show f_X12_round_L104 (fu + 1) _ _ _ _ = f_X12_round_L104 fu _ _ _ _
    have e := wr_s (M := M) (a := 111) (l := 0) (n := y) (B := fun _ => 1000)
    rw [Nat.zero_add] at e
    rw [f_X12_round_L104, li 896, if_neg (nI_ge hy (by omega)), pg_n (by omega) (by omega), sb, lt_def, nI_1, ← e]
theorem r_inner {x3 : Int32} {N T k b : Nat} {G : Nat → Nat} (hw : wfT τ) (hV : TR v τ M) (hN : N < 2 ^ 7) (hk : k < 896) (hG : G k < 1000) (I : rdI (dN τ) (tC τ) N T k b G) (h111 : ∀ i, i < 896 → M.1 111 i = nI (G i)) (h112 : ∀ p c, p < tC τ → c < 7 → M.1 112 (7 * p + c) = nI (dN τ p c)) : ∃ M', f_X12_round_L204 FU (nI N) x3 (nI k) 0 M = some M' ∧ FrM [111] M M' ∧ ∃ G' : Nat → Nat, rdI (dN τ) (tC τ) N T k b G' ∧ (∀ i, i < 896 → M'.1 111 i = nI (G' i)) ∧ G' k = G k ∧ ∀ c, c < tC τ → (deN N (k / 7)).testBit c = true → G' (nxI k c) ≤ G k + dN τ (k % 7) c := by
  have hC : tC τ ≤ 7 := hw.1
  have hv : v ≤ 1 := hV.1
  have hlast := ((I.1 k hk).2.2 hG).2.1
  obtain ⟨A, eA, fA, G', q1, q2, q3, q4⟩ := loopQ (fun fu y (s : Mem) => f_X12_round_L204 fu (nI N) x3 (nI k) (nI y) s) (fun y s => FrM [111] M s ∧ ∃ G' : Nat → Nat, rdI (dN τ) (tC τ) N T k b G' ∧ (∀ i, i < 896 → s.1 111 i = nI (G' i)) ∧ G' k = G k ∧ ∀ c, c < y → (deN N (k / 7)).testBit c = true → G' (nxI k c) ≤ G k + dN τ (k % 7) c) (fun s => FrM [111] M s ∧ ∃ G' : Nat → Nat, rdI (dN τ) (tC τ) N T k b G' ∧ (∀ i, i < 896 → s.1 111 i = nI (G' i)) ∧ G' k = G k ∧ ∀ c, c < tC τ → (deN N (k / 7)).testBit c = true → G' (nxI k c) ≤ G k + dN τ (k % 7) c) (tC τ) (by omega) (fun fu s hP => by
      have V' := hV.fr hP.1 (by decide)
      refine ⟨s, ?_, hP⟩
      show f_X12_round_L204 (fu + 1) _ _ _ _ _ = _
      rw [f_X12_round_L204, V'.2.1, ag_n (by omega) (by omega), sb, V'.2.2.1, if_pos (nI_le (Nat.le_refl _) (by omega))]) (fun fu c s hc hP => by
      have V' := hV.fr hP.1 (by decide)
      obtain ⟨fs, g, I', r', gk, gs⟩ := hP
      obtain ⟨n1, n2, n3⟩ := nx_ok (c := c) hk (by omega)
      have hd := ds_le (τ := τ) (fun _ => true) 0 (k % 7) c
      have hd : dN τ (k % 7) c ≤ 1000 := hd
      have g12 : s.1 112 (7 * (k % 7) + c) = nI (dN τ (k % 7) c) := by rw [fs.1 112 (by decide) (by decide)]; exact h112 _ _ hlast (by omega)
      have hb1 := (I'.1 (nxI k c) n1).1
      have hm7 : k / 7 ||| 2 ^ c < 2 ^ 7 := Nat.or_lt_two_pow (by omega) (Nat.pow_lt_pow_right (by decide) (by omega))
      have hdl : deN N (k / 7) < 2 ^ 31 := Nat.lt_trans (de_lt hN) (by decide)
      right
      show ∃ s', f_X12_round_L204 (fu + 1) _ _ _ _ _ = f_X12_round_L204 fu _ _ _ _ _ ∧ _
      rw [f_X12_round_L204, V'.2.1, ag_n (by omega) (by omega), sb, V'.2.2.1, if_neg (nI_ge hc (by omega)), li 7, pk_rem (by omega) (by omega) (by omega), pk_div (by omega) (by omega) (by omega), sh1 (by omega), or_n, pk_mul, nI_add, lt_def, ag_n (by omega) (by omega), sb, r' k hk, gk, pk_mul, nI_add, ag_n (by omega) (by omega), sb, g12, nI_add, lt_def, andc_n]
      show ∃ s', (if nI (deN N (k / 7)) &&& nI (2 ^ c) = 0 then _ else (ag s 111 896 (nI (nxI k c))).bind _) = _ ∧ _
      by_cases hbit : (deN N (k / 7)).testBit c = true
      · rw [if_neg (fun z => by rw [(and_bz hdl).mp z] at hbit; cases hbit), ag_n (by omega) (by omega), sb, r' _ n1]
        by_cases h : G k + dN τ (k % 7) c < g (nxI k c)
        · rw [if_neg (nI_ge h (by omega))]
          have hkn := nx_gt (N := N) (show c < 7 by omega) hbit
          refine ⟨sI s 111 (nxI k c) (nI (G k + dN τ (k % 7) c)), ?_, (fs.tr (FrM.set (S := [111]) (by decide) (by decide))).sub (by decide), fun i => if i = nxI k c then G k + dN τ (k % 7) c else g i, ?_, fun i hi => ?_, ?_, fun c' hc' hb' => ?_⟩
          · show (pg s 111 896 (nI (nxI k c)) _).bind _ = _
            rw [pg_n n1 (by omega), sb, lt_def, nI_1]
          · have := rd_set (D := dN τ) hN hk hc hC hbit (by rw [gk]; exact hG) I' (by rw [gk]; exact h)
            rw [gk] at this
            exact this
          · show _ = nI (if i = nxI k c then G k + dN τ (k % 7) c else g i)
            by_cases e : i = nxI k c
            · rw [if_pos e, e, sI_same]
            · rw [if_neg e, sI_ix e]; exact r' i hi
          · show (if k = nxI k c then G k + dN τ (k % 7) c else g k) = G k
            rw [if_neg (by omega)]; exact gk
          · show (if nxI k c' = nxI k c then G k + dN τ (k % 7) c else g (nxI k c')) ≤ _
            by_cases e : c' = c
            · rw [e, if_pos rfl]; exact Nat.le_refl _
            · have hne : nxI k c' ≠ nxI k c := fun z => by
                have := (nx_ok (c := c') hk (by omega)).2.2
                rw [z, n3] at this
                exact e this.symm
              rw [if_neg hne]; exact gs c' (by omega) hb'
        · rw [if_pos (nI_le (by omega) (by omega)), lt_def, nI_1]
          refine ⟨s, rfl, fs, g, I', r', gk, fun c' hc' hb' => ?_⟩
          by_cases e : c' = c
          · rw [e]; omega
          · exact gs c' (by omega) hb'
      · rw [if_pos ((and_bz hdl).mpr (by simpa using hbit)), lt_def, nI_1]
        refine ⟨s, rfl, fs, g, I', r', gk, fun c' hc' hb' => ?_⟩
        by_cases e : c' = c
        · rw [e] at hb'; exact absurd hb' hbit
        · exact gs c' (by omega) hb') M ⟨⟨fun _ _ _ => rfl, fun _ _ _ _ => rfl, rfl⟩, G, I, h111, rfl, fun c hc => absurd hc (by omega)⟩
  exact ⟨A, eA, fA, G', q1, q2, q3, q4⟩
theorem r_outer {N T : Nat} {G : Nat → Nat} (R : RelP t v τ ρ F M) (hN : N < 2 ^ 7) (hNn : ∀ c, N.testBit c = true → c < tC τ) (hT : T ≤ 1000) (I : rdI (dN τ) (tC τ) N T 0 1000 G) (h111 : ∀ i, i < 896 → M.1 111 i = nI (G i)) (h112 : ∀ p c, p < tC τ → c < 7 → M.1 112 (7 * p + c) = nI (dN τ p c)) : ∃ M', f_X12_round_L149 FU (nI N) 1000 0 M = some (nI T, M') ∧ RelP t v τ ρ F M' := by
  have hw := R.1
  have hC : tC τ ≤ 7 := hw.1
  obtain ⟨A, eA, q1, RA⟩ := loopQ (fun fu k (s : Int32 × Mem) => f_X12_round_L149 fu (nI N) s.1 (nI k) s.2) (fun k s => RelP t v τ ρ F s.2 ∧ (∀ p c, p < tC τ → c < 7 → s.2.1 112 (7 * p + c) = nI (dN τ p c)) ∧ ∃ (b : Nat) (G : Nat → Nat), s.1 = nI b ∧ rdI (dN τ) (tC τ) N T k b G ∧ ∀ i, i < 896 → s.2.1 111 i = nI (G i)) (fun z => z.1 = nI T ∧ RelP t v τ ρ F z.2) 896 (by omega) (fun fu s hP => by
      obtain ⟨R', -, b, g, eb, I', -⟩ := hP
      refine ⟨s, ?_, by rw [eb, rd_end I' hT], R'⟩
      show f_X12_round_L149 (fu + 1) _ _ _ _ = _
      rw [f_X12_round_L149, li 896, if_pos (nI_le (Nat.le_refl _) (by omega))]) (fun fu k s hk hP => by
      obtain ⟨R', h2, b, g, eb, I', r'⟩ := hP
      have hb := I'.2.1
      have hg := (I'.1 k hk).1
      right
      show ∃ s', f_X12_round_L149 (fu + 1) _ _ _ _ = f_X12_round_L149 fu _ _ _ _ ∧ _
      rw [f_X12_round_L149, li 896, if_neg (nI_ge hk (by omega)), ag_n (by omega) (by omega), sb, r' k hk, li 1000]
      by_cases hl : g k < 1000
      · obtain ⟨b', hb'⟩ : ∃ b', b' = if k / 7 = N ∧ g k < b then g k else b := ⟨_, rfl⟩
        have eb' : (if nI k / nI 7 = nI N then (some (nI (g k))).bind fun v35 => if s.1 ≤ v35 then some s.1 else (some (nI (g k))).bind fun v37 => some v37 else some s.1) = some (nI b') := by
          rw [pk_div (by omega) (by omega) (by omega), sb, sb, eb, hb']
          by_cases e : k / 7 = N
          · rw [if_pos (by rw [e])]
            by_cases h : g k < b
            · rw [if_neg (nI_ge h (by omega)), if_pos ⟨e, h⟩]
            · rw [if_pos (nI_le (by omega) (by omega)), if_neg (fun z => h z.2)]
          · rw [if_neg (fun z => e (nI_inj (by omega) (by omega) z)), if_neg (fun z => e z.1)]
        obtain ⟨M1, e1, f1, g1, I1, r1, k1, s1⟩ := r_inner (x3 := nI b') hw R'.tr hN hk hl I' r' h2
        rw [if_pos (nI_lt' hl (by omega)), li 7, eb', sb, e1, sb, lt_def, nI_1]
        refine ⟨(nI b', M1), rfl, R'.fm f1 (by decide), fun p c hp hc => ?_, b', g1, rfl, ?_, r1⟩
        · show M1.1 112 _ = _
          rw [f1.1 112 (by decide) (by decide)]; exact h2 p c hp hc
        · exact rd_next hN hk hNn (by rw [k1]; exact hl) I1 (fun c hc hbit => by rw [k1]; exact s1 c hc hbit) (by rw [k1]; exact hb')
      · rw [if_neg (nI_nlt' (nI_le (by omega) (by omega))), lt_def, nI_1]
        exact ⟨s, rfl, R', h2, b, g, eb, rd_skip hl I', r'⟩) (1000, M) ⟨R, h112, 1000, G, rfl, I, h111⟩
  refine ⟨A.2, ?_, RA⟩
  rw [show f_X12_round_L149 FU (nI N) 1000 0 M = some A from eA, ← q1]
end RNF
theorem s_round {M : Mem} (R : Rel M) : OkB (f_X11_round M) f_X12_round := by
  have R0 := R
  obtain ⟨t, v, τ, ρ, F, R⟩ := R
  have hw := R.1
  have wn := R.2.1
  have hT : TC t τ M := R.2.2.1
  have hV : TR v τ M := R.2.2.2.1
  have h9 : M.2.2 0 9 = some t := R.2.2.2.2.2.2.1.1
  have hC : tC τ ≤ 7 := hw.1
  have hv : v ≤ 1 := hV.1
  by_cases hz : tC τ = 0
  · refine ⟨-2, M, M, ?_, ?_, R0⟩
    · unfold f_X11_round
      rw [rT_n h9 hT.1, sb, hT.2.1, hz, if_pos nI_0]
    · unfold f_X12_round
      rw [hV.2.1, ag_n (by omega) (by omega), sb, hV.2.2.1, hz, if_pos nI_0]
  have hc : 0 < tC τ := by omega
  have k46 := wn.2.2.2 hc
  obtain ⟨N, hN⟩ : ∃ N, N = mskN (useB τ ρ (tY τ)) 7 := ⟨_, rfl⟩
  obtain ⟨u1, u2⟩ := use_7 hw wn
  have hN7 : N < 2 ^ 7 := by rw [hN]; exact mskN_lt _ _
  rw [← hN] at u1 u2
  have kl : M.1 60 2 = nI (ρ 46) := R.2.2.2.2.1.2.2.2.1 hc
  have hD : ∀ p c, dN τ p c ≤ 1000 := fun p c => ds_le (τ := τ) (fun _ => true) 0 p c
  obtain ⟨M1, e1, R1, r1⟩ := c_between R (nI (ρ 46)) (nI N)
  have eR := c_rf hD hC r1 7 40 0 (ρ 46) N (cn_7 _) (by omega) (by omega) k46 hN7 u2
  obtain ⟨T, hTT⟩ : ∃ T, T = rH (dN τ) 7 (ρ 46) (deN N (2 ^ ρ 46)) := ⟨_, rfl⟩
  rw [← hTT] at eR
  have T1 : T ≤ 1000 := by rw [hTT]; exact rH_le _ _ _
  obtain ⟨M5, e5, R5, X5, f5, -, -⟩ := R1.rx
  obtain ⟨M6, e6, X6, R6, r6⟩ := r_between X5 R5
  rw [← u1] at e6
  have f7 : FrM [111] M6 (wrM M6 111 0 (fun _ => 1000) 896) := FrM.wr (by decide) (by decide)
  obtain ⟨i0, hi0⟩ : ∃ i0, i0 = 7 * (N &&& 2 ^ ρ 46) + ρ 46 := ⟨_, rfl⟩
  have hand : N &&& 2 ^ ρ 46 < 2 ^ 7 := Nat.lt_of_le_of_lt Nat.and_le_left hN7
  have i1 : i0 < 896 ∧ i0 / 7 = N &&& 2 ^ ρ 46 ∧ i0 % 7 = ρ 46 := by omega
  have f8 : FrM [111] (wrM M6 111 0 (fun _ => 1000) 896) (sI (wrM M6 111 0 (fun _ => 1000) 896) 111 i0 0) := FrM.set (by decide) (by decide)
  have R8 := (R6.fm f7 (by decide)).fm f8 (by decide)
  have dd : deN N (N &&& 2 ^ ρ 46) = deN N (2 ^ ρ 46) := by
    apply Nat.eq_of_testBit_eq
    intro j
    rw [de_bit, de_bit, Nat.testBit_and]
    cases N.testBit j <;> cases (2 ^ ρ 46).testBit j <;> rfl
  have I : rdI (dN τ) (tC τ) N T 0 1000 (fun i => if i = i0 then 0 else 1000) := by
    refine ⟨fun i hi => ?_, Nat.le_refl _, T1, fun hT => Or.inr ⟨i0, Nat.zero_le _, i1.1, ?_, ?_⟩⟩
    · show (if i = i0 then 0 else 1000) ≤ 1000 ∧ T ≤ (if i = i0 then 0 else 1000) + _ ∧ ((if i = i0 then 0 else 1000) < 1000 → _)
      by_cases e : i = i0
      · rw [if_pos e, e, i1.2.1, i1.2.2, dd]
        refine ⟨by omega, by rw [← hTT]; omega, fun _ => ⟨?_, k46, ?_⟩⟩
        · rw [sub_iff]
          intro j hj
          rw [Nat.testBit_and] at hj
          cases h : N.testBit j
          · rw [h] at hj; cases hj
          · rfl
        · rw [de_bit, Nat.testBit_two_pow]
          simp
      · rw [if_neg e]
        exact ⟨Nat.le_refl _, by omega, fun z => absurd z (by omega)⟩
    · show (if i0 = i0 then 0 else 1000) < 1000
      rw [if_pos rfl]; omega
    · show (if i0 = i0 then 0 else 1000) + _ ≤ T
      rw [if_pos rfl, i1.2.1, i1.2.2, dd, ← hTT]; omega
  obtain ⟨M9, e9, R9⟩ := r_outer R8 hN7 u2 T1 I (fun i hi => by
    show _ = nI (if i = i0 then 0 else 1000)
    by_cases e : i = i0
    · rw [if_pos e, e, sI_same]; rfl
    · rw [if_neg e, sI_ix e]
      have := wr_at (M := M6) (a := 111) (l := 0) (B := fun _ => (1000 : Int32)) hi
      rw [Nat.zero_add] at this
      exact this) (fun p c hp hcc => by
    rw [sI_cell (by decide), wr_cell (by decide)]
    exact r6 p c hp hcc)
  refine ⟨fwV T, M1, M9, ?_, ?_, R9.rel⟩
  · unfold f_X11_round f_X10_shortestRound f_X10_roundFrom fwV
    rw [rT_n h9 hT.1, sb, hT.2.1, if_neg (nI_ne0 (by omega) (by omega)), sb, c_use hw hT R.2.2.2.2.1 wn, sb, kl, ← hN, e1, sb, show n_X10_roundFrom 40 (nI (ρ 46)) (nI N) 0 M1 = _ from eR, sb, li 1000]
    by_cases h : T < 1000
    · rw [if_pos (nI_lt' h (by omega)), if_pos h, sb]
    · rw [if_neg (nI_nlt' (nI_le (by omega) (by omega))), if_neg h, sb]
  · have V1 := R1.tr
    unfold f_X12_round fwV
    rw [V1.2.1, ag_n (by omega) (by omega), sb, V1.2.2.1, if_neg (nI_ne0 (by omega) (by omega)), e5, sb, e6, sb, li 46, ag_n (by omega) (by omega), sb, X6.2.2.2.1.2.1 hc, r_fill1k, sb, sh1 (by omega), and_n, li 7, pk_mul, nI_add, ← hi0, pg_n i1.1 (by omega), sb, e9, sb, li 1000]
    by_cases h : T < 1000
    · rw [if_pos (nI_lt' h (by omega)), if_pos h]
    · rw [if_neg (nI_nlt' (nI_le (by omega) (by omega))), if_neg h]

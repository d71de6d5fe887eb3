-- 63.rbest: pure: the reference tries all places
section RBS
variable {F : Nat → (Nat → Int32) → Int32} {τ : Nat → Nat → Nat} {ρ : Nat → Nat} {t v : Nat} {M : Mem}
theorem wy_le (hw : wfT τ) : ∀ m, wyN τ ρ m ≤ 7 ^ m
  | 0 => Nat.le_refl _
  | m + 1 => by
    have ih := wy_le hw m
    have hC : tC τ ≤ 7 := hw.1
    unfold wyN
    rw [Nat.pow_succ]
    split
    · exact Nat.mul_le_mul ih hC
    · omega
theorem wy_6 (hw : wfT τ) {m : Nat} (hm : m ≤ 6) : wyN τ ρ m ≤ 117649 := Nat.le_trans (wy_le hw m) (show 7 ^ m ≤ 7 ^ 6 from Nat.pow_le_pow_right (by decide) hm)
theorem wy_pos (hw : wfT τ) (wn : wfN τ ρ) : ∀ m, m ≤ tY τ → 0 < wyN τ ρ m
  | 0, _ => Nat.zero_lt_one
  | m + 1, hm => by
    have ih := wy_pos hw wn m (by omega)
    have := wn.1 m (by omega)
    unfold wyN
    split
    · exact Nat.mul_pos ih (by omega)
    · exact ih
theorem r_ways (hw : wfT τ) (hV : TR v τ M) (hN : NR 104 τ ρ M) (wn : wfN τ ρ) : f_X12_fillsBest_L8 FU 1 0 M = some (nI (wyN τ ρ (tY τ))) := by
  have hY : tY τ ≤ 6 := hw.2.2.1
  have hv : v ≤ 1 := hV.1
  refine loop0 (fun fu y => f_X12_fillsBest_L8 fu (nI (wyN τ ρ y)) (nI y) M) _ (tY τ) (by omega) (fun fu => ?_) (fun fu y hy => ?_)
  · show f_X12_fillsBest_L8 (fu + 1) _ _ M = _
    rw [f_X12_fillsBest_L8, hV.2.1, ag_n (by omega) (by omega), sb, hV.2.2.2.2.1, if_pos (nI_le (Nat.le_refl _) (by omega))]
  · show f_X12_fillsBest_L8 (fu + 1) _ _ M = f_X12_fillsBest_L8 fu _ _ M
    have hb := (wn.2.1 y (by omega)).2.1
    rw [f_X12_fillsBest_L8, hV.2.1, ag_n (by omega) (by omega), sb, hV.2.2.2.2.1, if_neg (nI_ge hy (by omega)), li 12, nI_add, ag_n (by omega) (by omega), sb, hN.1 (12 + y) (by omega) (by omega)]
    have es : wyN τ ρ (y + 1) = if ρ (12 + y) = 0 then wyN τ ρ y * tC τ else wyN τ ρ y := rfl
    rw [es]
    by_cases h0 : ρ (12 + y) = 0
    · rw [h0, if_pos nI_0, ag_n (by omega) (by omega), sb, hV.2.2.1, pk_mul, lt_def, lt_def, nI_1, if_pos rfl]
    · rw [if_neg (nI_ne0 (by omega) (by omega)), lt_def, nI_1, if_neg h0]
theorem wf_pl (hw : wfT τ) (wn : wfN τ ρ) {w : Nat → Nat} (ok : okW2 τ ρ w) : wfN τ (plN ρ w) := by
  have hY : tY τ ≤ 6 := hw.2.2.1
  have o : ∀ k, 6 ≤ k → plN ρ w k = ρ k := fun k hk => if_neg (by omega)
  refine ⟨fun y hy => ?_, fun y hy => ?_, fun q hq => ?_, fun z => ?_⟩
  · unfold plN
    by_cases h : y < 6 ∧ ρ (12 + y) = 0
    · rw [if_pos h]; exact ok y hy h.2
    · rw [if_neg h]; exact wn.1 y hy
  · rw [o (6 + y) (by omega), o (12 + y) (by omega), o (30 + y) (by omega)]; exact wn.2.1 y hy
  · rw [o _ (by omega)]; exact wn.2.2.1 q hq
  · rw [o _ (by omega)]; exact wn.2.2.2 z
theorem pop_msk (p : Nat → Bool) {n : Nat} (hn : n ≤ 10) : popN (mskN p n) = sumN (fun s => if p s then 1 else 0) n := by
  unfold popN
  rw [sumN_x (n := n) hn (fun k a b => by rw [mskN_bit, decide_eq_false (by omega)]; rfl)]
  refine sumN_cong (fun s hs => ?_)
  rw [mskN_bit, decide_eq_true hs, Bool.true_and]
theorem lf_le (way : Nat) : ∀ k, lfN τ ρ way k ≤ way
  | 0 => Nat.le_refl _
  | k + 1 => by
    have ih := lf_le way k
    unfold lfN
    split
    · exact Nat.le_trans (Nat.div_le_self _ _) ih
    · exact ih
theorem r_decode {x1 x2 x3 : Int32} {way : Nat} {w0 : Nat → Nat} (hw : wfT τ) (hV : TR v τ M) (wn : wfN τ ρ) (hN : NR 104 τ (plN ρ w0) M) (hw0 : ∀ y, tY τ ≤ y → w0 y = ρ y) (hway : way < 2 ^ 31) : ∃ M', f_X12_fillsBest_L76 FU x1 x2 x3 (nI way) (nI (tY τ) - 1) M = some M' ∧ FrM [104] M M' ∧ NR 104 τ (plN ρ (wW τ ρ way)) M' := by
  have hY : tY τ ≤ 6 := hw.2.2.1
  have hC : tC τ ≤ 7 := hw.1
  have hv : v ≤ 1 := hV.1
  obtain ⟨A, eA, fA, w', nA, p1, p2⟩ := loopQ (fun fu k (s : Mem) => f_X12_fillsBest_L76 fu x1 x2 x3 (nI (lfN τ ρ way k)) (if k < tY τ then nI (tY τ - 1 - k) else -1) s) (fun k s => FrM [104] M s ∧ ∃ w' : Nat → Nat, NR 104 τ (plN ρ w') s ∧ (∀ y, tY τ ≤ y → w' y = ρ y) ∧ ∀ y, y < tY τ → tY τ - k ≤ y → ρ (12 + y) = 0 → w' y = wW τ ρ way y) (fun s => FrM [104] M s ∧ ∃ w' : Nat → Nat, NR 104 τ (plN ρ w') s ∧ (∀ y, tY τ ≤ y → w' y = ρ y) ∧ ∀ y, y < tY τ → ρ (12 + y) = 0 → w' y = wW τ ρ way y) (tY τ) (by omega) (fun fu s hP => by
      obtain ⟨fs, w', n', a1, a2⟩ := hP
      refine ⟨s, ?_, fs, w', n', a1, fun y hy h0 => a2 y hy (by omega) h0⟩
      show f_X12_fillsBest_L76 (fu + 1) _ _ _ _ _ _ = _
      rw [f_X12_fillsBest_L76, if_neg (show ¬ tY τ < tY τ by omega), if_pos (by decide)]) (fun fu k s hk hP => by
      have V' := hV.fr hP.1 (by decide)
      obtain ⟨fs, w', n', a1, a2⟩ := hP
      obtain ⟨y, hy⟩ : ∃ y, y = tY τ - 1 - k := ⟨_, rfl⟩
      have hyY : y < tY τ := by omega
      have hb := (wn.2.1 y (by omega)).2.1
      have ha := wn.1 y hyY
      have e12 : s.1 104 (12 + y) = nI (ρ (12 + y)) := by rw [n'.1 (12 + y) (by omega) (by omega)]; exact congrArg nI (if_neg (by omega))
      have enext : nI y + (-1) = if k + 1 < tY τ then nI (tY τ - 1 - (k + 1)) else -1 := by
        by_cases h : k + 1 < tY τ
        · rw [if_pos h, show y = (tY τ - 1 - (k + 1)) + 1 by omega, pk_m1]
        · rw [if_neg h, show y = 0 by omega]
          decide
      have els : lfN τ ρ way (k + 1) = if ρ (12 + y) = 0 then lfN τ ρ way k / tC τ else lfN τ ρ way k := by
        show (if ρ (12 + (tY τ - (k + 1))) = 0 then _ else _) = _
        rw [show tY τ - (k + 1) = y by omega]
      have hll := lf_le (τ := τ) (ρ := ρ) way k
      right
      show ∃ s', f_X12_fillsBest_L76 (fu + 1) _ _ _ _ _ _ = f_X12_fillsBest_L76 fu _ _ _ _ _ _ ∧ _
      rw [f_X12_fillsBest_L76, if_pos hk, ← hy, if_neg (nI_pos (by omega)), li 12, nI_add, ag_n (by omega) (by omega), sb, e12, els]
      rcases (by omega : ρ (12 + y) = 0 ∨ ρ (12 + y) = 1) with h0 | h1
      · have ew : lfN τ ρ way k % tC τ = wW τ ρ way y := by
          rw [wW, if_pos hyY, show tY τ - (y + 1) = k by omega]
        have fS : FrM [104] s (sI s 104 y (nI (lfN τ ρ way k % tC τ))) := FrM.set (by decide) (by decide)
        have V2 := V'.fr fS (by decide)
        rw [h0, if_neg (show ¬ nI 0 = 1 by decide), V'.2.1, ag_n (by omega) (by omega), sb, V'.2.2.1, rm_n (by omega) (by omega) (by omega), sb, pg_n (by omega) (by omega), sb, V2.2.1, ag_n (by omega) (by omega), sb, V2.2.2.1, dv_n (by omega) (by omega) (by omega), sb, lt_def, enext, if_pos rfl]
        refine ⟨_, rfl, (fs.tr fS).sub (by decide), fun q => if q = y then lfN τ ρ way k % tC τ else w' q, ?_, fun q hq => ?_, fun q hq hq2 hq0 => ?_⟩
        · refine n'.set (fun i hi => ?_) (by omega) ?_
          · show (if i < 6 ∧ ρ (12 + i) = 0 then (if i = y then lfN τ ρ way k % tC τ else w' i) else ρ i) = if i < 6 ∧ ρ (12 + i) = 0 then w' i else ρ i
            rw [if_neg hi]
          · show nI _ = nI (if y < 6 ∧ ρ (12 + y) = 0 then (if y = y then lfN τ ρ way k % tC τ else w' y) else ρ y)
            rw [if_pos ⟨by omega, h0⟩, if_pos rfl]
        · show (if q = y then lfN τ ρ way k % tC τ else w' q) = ρ q
          rw [if_neg (by omega)]; exact a1 q hq
        · show (if q = y then lfN τ ρ way k % tC τ else w' q) = wW τ ρ way q
          by_cases e : q = y
          · rw [if_pos e, ew, e]
          · rw [if_neg e]; exact a2 q hq (by omega) hq0
      · rw [h1, if_pos (show nI 1 = 1 from rfl), lt_def, enext, if_neg (show ¬ (1 : Nat) = 0 by omega)]
        refine ⟨s, rfl, fs, w', n', a1, fun q hq hq2 hq0 => ?_⟩
        have : q ≠ y := fun z => by rw [z] at hq0; omega
        exact a2 q hq (by omega) hq0) M ⟨FrM.rf, w0, hN, hw0, fun y hy hq => absurd hq (by omega)⟩
  have e0 : (if 0 < tY τ then nI (tY τ - 1 - 0) else (-1 : Int32)) = nI (tY τ) - 1 := by
    by_cases h : 0 < tY τ
    · rw [if_pos h, li 1, pk_sub (by omega), Nat.sub_zero]
    · rw [if_neg h, show tY τ = 0 by omega]
      decide
  refine ⟨A, ?_, fA, ?_⟩
  · rw [← e0]; exact eA
  · have : plN ρ (wW τ ρ way) = plN ρ w' := by
      funext k
      unfold plN
      by_cases h : k < 6 ∧ ρ (12 + k) = 0
      · rw [if_pos h, if_pos h]
        by_cases hk : k < tY τ
        · exact (p2 k hk h.2).symm
        · rw [p1 k (by omega), wW, if_neg hk]
      · rw [if_neg h, if_neg h]
    rw [this]; exact nA
theorem r_keepB {x1 x2 x3 : Int32} {w : Nat → Nat} (hw : wfT τ) (hV : TR v τ M) (wn : wfN τ ρ) (hN : NR 104 τ (plN ρ w) M) : f_X12_fillsBest_L161 FU x1 x2 x3 0 M = some (wrM M 109 0 (fun y => if ρ (12 + y) = 1 then -2 else nI (w y)) (tY τ)) := by
  have hY : tY τ ≤ 6 := hw.2.2.1
  have hv : v ≤ 1 := hV.1
  let B : Nat → Int32 := fun y => if ρ (12 + y) = 1 then -2 else nI (w y)
  have T : ∀ n, TR v τ (wrM M 109 0 B n) := fun n => hV.fr (FrM.wr (S := [109]) (by decide) (by decide)) (by decide)
  have N : ∀ n, NR 104 τ (plN ρ w) (wrM M 109 0 B n) := fun n => hN.fr (FrM.wr (S := [109]) (by decide) (by decide)) (by decide) (by decide)
  have h := loop0 (fun fu y => f_X12_fillsBest_L161 fu x1 x2 x3 (nI y) (wrM M 109 0 B y)) (some (wrM M 109 0 B (tY τ))) (tY τ) (by omega) (fun fu => ?_) (fun fu y hy => ?_)
  · rw [wr_0] at h
    exact h
  · show f_X12_fillsBest_L161 (fu + 1) _ _ _ _ _ = _
    rw [f_X12_fillsBest_L161, (T _).2.1, ag_n (by omega) (by omega), sb, (T _).2.2.2.2.1, if_pos (nI_le (Nat.le_refl _) (by omega))]
  · show f_X12_fillsBest_L161 (fu + 1) _ _ _ _ _ = f_X12_fillsBest_L161 fu _ _ _ _ _
    have hb := (wn.2.1 y (by omega)).2.1
    have e := wr_s (M := M) (a := 109) (l := 0) (n := y) (B := B)
    rw [Nat.zero_add] at e
    have e12 : (wrM M 109 0 B y).1 104 (12 + y) = nI (ρ (12 + y)) := by rw [(N y).1 (12 + y) (by omega) (by omega)]; exact congrArg nI (if_neg (by omega))
    have eB : (if nI (ρ (12 + y)) = 1 then some (-2 : Int32) else (ag (wrM M 109 0 B y) 104 48 (nI y)).bind fun v38 => some v38) = some (B y) := by
      rcases (by omega : ρ (12 + y) = 0 ∨ ρ (12 + y) = 1) with h0 | h1
      · rw [h0, if_neg (show ¬ nI 0 = 1 by decide), ag_n (by omega) (by omega), sb, (N y).1 y (by omega) (by omega)]
        show some (nI (if y < 6 ∧ ρ (12 + y) = 0 then w y else ρ y)) = some (if ρ (12 + y) = 1 then -2 else nI (w y))
        rw [if_pos ⟨by omega, h0⟩, if_neg (by omega)]
      · rw [h1, if_pos (show nI 1 = 1 from rfl)]
        show _ = some (if ρ (12 + y) = 1 then -2 else nI (w y))
        rw [if_pos h1]
    rw [f_X12_fillsBest_L161, (T _).2.1, ag_n (by omega) (by omega), sb, (T _).2.2.2.2.1, if_neg (nI_ge hy (by omega)), li 12, nI_add, ag_n (by omega) (by omega), sb, e12, eB, sb, pg_n (by omega) (by omega), sb, lt_def, nI_1, ← e]
theorem cnt_10 (hw : wfT τ) (w : Nat → Nat) : cntL τ ρ w ≤ 10 := by
  have hS : tS τ ≤ 10 := hw.2.1
  have h : cntL τ ρ w ≤ tS τ * 1 := sumN_le (fun k hk => by split <;> omega)
  omega
theorem r_best (R : RelP t v τ ρ F M) : ∃ (M' : Mem) (b : Nat) (w : Nat → Nat), f_X12_fillsBest M = some (nI b, M') ∧ RelP t v τ ρ F M' ∧ isBest τ ρ b w ∧ b ≤ 10 ∧ ∀ y, y < tY τ → M'.1 109 y = if ρ (12 + y) = 1 then -2 else nI (w y) := by
  have hw := R.1
  have wn := R.2.1
  have hY : tY τ ≤ 6 := hw.2.2.1
  have hS : tS τ ≤ 10 := hw.2.1
  have hW := wy_6 (ρ := ρ) hw hY
  have hW0 := wy_pos hw wn (tY τ) (Nat.le_refl _)
  obtain ⟨M5, e5, R5, X5, f5, -, -⟩ := R.rx
  have n5 : NR 104 τ (plN ρ ρ) M5 := by
    have : plN ρ ρ = ρ := by funext k; unfold plN; split <;> rfl
    rw [this]; exact X5.2.2.2.1
  obtain ⟨A, eA, RA, hA⟩ := loopQ (fun fu way (s : Int32 × Mem) => f_X12_fillsBest_L55 fu (nI (wyN τ ρ (tY τ))) s.1 (nI way) s.2) (fun way s => RelP t v τ ρ F s.2 ∧ (∃ w0 : Nat → Nat, NR 104 τ (plN ρ w0) s.2 ∧ ∀ y, tY τ ≤ y → w0 y = ρ y) ∧ ((way = 0 ∧ s.1 = -1) ∨ ∃ j, j < way ∧ s.1 = nI (cntL τ ρ (wW τ ρ j)) ∧ (∀ i, i < way → cntL τ ρ (wW τ ρ i) ≤ cntL τ ρ (wW τ ρ j)) ∧ (∀ i, i < j → cntL τ ρ (wW τ ρ i) < cntL τ ρ (wW τ ρ j)) ∧ ∀ y, y < tY τ → s.2.1 109 y = if ρ (12 + y) = 1 then -2 else nI (wW τ ρ j y))) (fun s => RelP t v τ ρ F s.2 ∧ ∃ j, j < wyN τ ρ (tY τ) ∧ s.1 = nI (cntL τ ρ (wW τ ρ j)) ∧ (∀ i, i < wyN τ ρ (tY τ) → cntL τ ρ (wW τ ρ i) ≤ cntL τ ρ (wW τ ρ j)) ∧ (∀ i, i < j → cntL τ ρ (wW τ ρ i) < cntL τ ρ (wW τ ρ j)) ∧ ∀ y, y < tY τ → s.2.1 109 y = if ρ (12 + y) = 1 then -2 else nI (wW τ ρ j y)) (wyN τ ρ (tY τ)) (by omega) (fun fu s hP => by
      refine ⟨s, ?_, hP.1, hP.2.2.resolve_left (fun z => by omega)⟩
      show f_X12_fillsBest_L55 (fu + 1) _ _ _ _ = _
      rw [f_X12_fillsBest_L55, if_pos (nI_le (Nat.le_refl _) (by omega))]) (fun fu way s hway hP => by
      obtain ⟨R', ⟨w0, n', a1⟩, hj⟩ := hP
      have hv : v ≤ 1 := R'.tr.1
      obtain ⟨M1, e1, f1, n1⟩ := r_decode (x1 := nI (wyN τ ρ (tY τ))) (x2 := s.1) (x3 := nI way) (way := way) hw R'.tr wn n' a1 (by omega)
      have R1 := R'.fm f1 (by decide)
      have wn1 := wf_pl hw wn (ok_wW hw wn way)
      obtain ⟨M2, e2, f2⟩ := r_lits hw R1.tr n1 wn1
      have R2 := R1.fm f2 (by decide)
      have n2 := n1.fr f2 (by decide) (by decide)
      have hl : litN τ (plN ρ (wW τ ρ way)) < 1024 := lit_lt hw
      have ep : popN (litN τ (plN ρ (wW τ ρ way))) = cntL τ ρ (wW τ ρ way) := pop_msk _ hS
      have c10 := cnt_10 (ρ := ρ) hw (wW τ ρ way)
      have k109 : M2.1 109 = s.2.1 109 := (f2.1 109 (by decide) (by decide)).trans (f1.1 109 (by decide) (by decide))
      right
      show ∃ s', f_X12_fillsBest_L55 (fu + 1) _ _ _ _ = f_X12_fillsBest_L55 fu _ _ _ _ ∧ _
      rw [f_X12_fillsBest_L55, if_neg (nI_ge hway (by omega)), R'.tr.2.1, ag_n (by omega) (by omega), sb, R'.tr.2.2.2.2.1, lt_def, e1, sb, e2, sb, r_bits hl, sb, ep]
      have take : s.1 < nI (cntL τ ρ (wW τ ρ way)) → (∀ i, i < way → cntL τ ρ (wW τ ρ i) < cntL τ ρ (wW τ ρ way)) → ∃ s' : Int32 × Mem, (if s.1 < nI (cntL τ ρ (wW τ ρ way)) then (f_X12_fillsBest_L161 FU (nI (wyN τ ρ (tY τ))) (nI (cntL τ ρ (wW τ ρ way))) (nI way) 0 M2).bind fun t41 => lt (nI way + 1) fun v43 => f_X12_fillsBest_L55 fu (nI (wyN τ ρ (tY τ))) (nI (cntL τ ρ (wW τ ρ way))) v43 t41 else lt (nI way + 1) fun v44 => f_X12_fillsBest_L55 fu (nI (wyN τ ρ (tY τ))) s.1 v44 M2) = f_X12_fillsBest_L55 fu (nI (wyN τ ρ (tY τ))) s'.1 (nI (way + 1)) s'.2 ∧ RelP t v τ ρ F s'.2 ∧ (∃ w0 : Nat → Nat, NR 104 τ (plN ρ w0) s'.2 ∧ ∀ y, tY τ ≤ y → w0 y = ρ y) ∧ ((way + 1 = 0 ∧ s'.1 = -1) ∨ ∃ j, j < way + 1 ∧ s'.1 = nI (cntL τ ρ (wW τ ρ j)) ∧ (∀ i, i < way + 1 → cntL τ ρ (wW τ ρ i) ≤ cntL τ ρ (wW τ ρ j)) ∧ (∀ i, i < j → cntL τ ρ (wW τ ρ i) < cntL τ ρ (wW τ ρ j)) ∧ ∀ y, y < tY τ → s'.2.1 109 y = if ρ (12 + y) = 1 then -2 else nI (wW τ ρ j y)) := by
        intro h1 h2
        have f3 : FrM [109] M2 (wrM M2 109 0 (fun y => if ρ (12 + y) = 1 then -2 else nI (wW τ ρ way y)) (tY τ)) := FrM.wr (by decide) (by decide)
        rw [if_pos h1, r_keepB hw R2.tr wn n2, sb, lt_def, nI_1]
        refine ⟨(_, _), rfl, R2.fm f3 (by decide), ⟨wW τ ρ way, n2.fr f3 (by decide) (by decide), fun y hy => by rw [wW, if_neg (by omega)]⟩, Or.inr ⟨way, by omega, rfl, fun i hi => ?_, h2, fun y hy => ?_⟩⟩
        · by_cases e : i = way
          · rw [e]; exact Nat.le_refl _
          · exact Nat.le_of_lt (h2 i (by omega))
        · have := wr_at (M := M2) (a := 109) (l := 0) (B := fun y => if ρ (12 + y) = 1 then (-2 : Int32) else nI (wW τ ρ way y)) hy
          rw [Nat.zero_add] at this
          exact this
      rcases hj with ⟨hz, hm⟩ | ⟨j, j1, j2, j3, j4, j5⟩
      · exact take (by rw [hm]; exact Int32.lt_of_lt_of_le (by decide) (nI_pos' (by omega))) (fun i hi => absurd hi (by omega))
      · have cj := cnt_10 (ρ := ρ) hw (wW τ ρ j)
        by_cases h : cntL τ ρ (wW τ ρ j) < cntL τ ρ (wW τ ρ way)
        · exact take (by rw [j2]; exact nI_lt' h (by omega)) (fun i hi => Nat.lt_of_le_of_lt (j3 i hi) h)
        · rw [if_neg (by rw [j2]; exact nI_nlt' (nI_le (by omega) (by omega))), lt_def, nI_1]
          refine ⟨(s.1, M2), rfl, R2, ⟨wW τ ρ way, n2, fun y hy => by rw [wW, if_neg (by omega)]⟩, Or.inr ⟨j, by omega, j2, fun i hi => ?_, j4, fun y hy => ?_⟩⟩
          · by_cases e : i = way
            · rw [e]; omega
            · exact j3 i (by omega)
          · show M2.1 109 y = _
            rw [k109]; exact j5 y hy) (-1, M5) ⟨R5, ⟨ρ, n5, fun _ _ => rfl⟩, Or.inl ⟨rfl, rfl⟩⟩
  obtain ⟨j, j1, j2, j3, j4, j5⟩ := hA
  refine ⟨A.2, cntL τ ρ (wW τ ρ j), wW τ ρ j, ?_, RA, best_of hw wn j1 rfl j3 j4, cnt_10 hw _, j5⟩
  unfold f_X12_fillsBest
  rw [e5, sb, r_ways hw X5.2.2.1 X5.2.2.2.1 wn, sb, show f_X12_fillsBest_L55 FU (nI (wyN τ ρ (tY τ))) (-1) 0 M5 = some A from eA, sb, ← j2]
end RBS

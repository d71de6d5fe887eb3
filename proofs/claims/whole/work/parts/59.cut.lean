-- 59.cut: pure: cut
/-- the least of f over those below n of which p holds, and of x -/
def mnF (p : Nat → Bool) (f : Nat → Nat) (x : Nat) : Nat → Nat
  | 0 => x
  | k + 1 => if p k = true ∧ f k < mnF p f x k then f k else mnF p f x k
theorem mf_s (p : Nat → Bool) (f : Nat → Nat) (x k : Nat) : mnF p f x (k + 1) = if p k = true ∧ f k < mnF p f x k then f k else mnF p f x k := rfl
theorem mf_x {p : Nat → Bool} {f : Nat → Nat} {x : Nat} : ∀ n, mnF p f x n ≤ x
  | 0 => Nat.le_refl _
  | n + 1 => by
    have := mf_x (p := p) (f := f) (x := x) n
    rw [mf_s]
    split <;> omega
theorem mf_le {p : Nat → Bool} {f : Nat → Nat} {x : Nat} : ∀ n k, k < n → p k = true → mnF p f x n ≤ f k
  | 0, k, h, _ => absurd h (by omega)
  | n + 1, k, h, hp => by
    rw [mf_s]
    by_cases e : k = n
    · subst e
      by_cases hl : f k < mnF p f x k
      · rw [if_pos ⟨hp, hl⟩]; exact Nat.le_refl _
      · rw [if_neg (fun z => hl z.2)]; omega
    · have := mf_le (p := p) (f := f) (x := x) n k (by omega) hp
      split <;> omega
theorem mf_at {p : Nat → Bool} {f : Nat → Nat} {x : Nat} : ∀ n, mnF p f x n = x ∨ ∃ k, k < n ∧ p k = true ∧ mnF p f x n = f k
  | 0 => Or.inl rfl
  | n + 1 => by
    rw [mf_s]
    split
    · next h => exact Or.inr ⟨n, by omega, h.1, rfl⟩
    · rcases mf_at (p := p) (f := f) (x := x) n with h | ⟨k, h1, h2, h3⟩
      · exact Or.inl h
      · exact Or.inr ⟨k, by omega, h2, h3⟩
theorem sumN_mono {f g : Nat → Nat} : ∀ {n : Nat}, (∀ k, k < n → f k ≤ g k) → sumN f n ≤ sumN g n
  | 0, _ => Nat.le_refl _
  | n + 1, h => by
    have h1 := sumN_mono (f := f) (g := g) (n := n) (fun k hk => h k (by omega))
    have h2 := h n (by omega)
    rw [sumN_s, sumN_s]
    omega
section CUT
variable {F : Nat → (Nat → Int32) → Int32} {τ : Nat → Nat → Nat} {ρ : Nat → Nat} {t v : Nat} {M : Mem}
def crN (τ : Nat → Nat → Nat) (L H : Nat) : Nat := sumN (fun s => if L.testBit s = true ∧ crB τ H s = true then 1 else 0) (tS τ)
def haB (a b H : Nat) : Bool := H.testBit a && !(H.testBit b)
def dkB (τ : Nat → Nat → Nat) (L a b d : Nat) : Bool := decide (d &&& L = d) && decide (1000 ≤ dsN τ (fun s => (L ^^^ (L &&& d)).testBit s) 0 a b)
theorem xd_bit (L d s : Nat) : (L ^^^ (L &&& d)).testBit s = (L.testBit s && !(d.testBit s)) := by
  rw [Nat.testBit_xor, Nat.testBit_and]
  cases L.testBit s <;> cases d.testBit s <;> rfl
theorem cr_le (hw : wfT τ) (L H : Nat) : crN τ L H ≤ 10 := by
  have hS : tS τ ≤ 10 := hw.2.1
  have h : crN τ L H ≤ tS τ * 1 := sumN_le (fun k hk => by split <;> omega)
  omega
theorem pop_10 (a : Nat) : popN a ≤ 10 := sumN_le (b := 1) (n := 10) (fun k hk => by split <;> omega)
theorem cut_a {L a b d : Nat} (hw : wfT τ) (ha : a < tC τ) (hb : b < tC τ) (hd : dkB τ L a b d = true) : ∃ H, H < 2 ^ tC τ ∧ haB a b H = true ∧ crN τ L H ≤ popN d := by
  have hS : tS τ ≤ 10 := hw.2.1
  have hC : tC τ ≤ 7 := hw.1
  unfold dkB at hd
  simp only [Bool.and_eq_true, decide_eq_true_eq] at hd
  obtain ⟨p, hp⟩ : ∃ p : Nat → Bool, p = fun c => decide (dsN τ (fun s => (L ^^^ (L &&& d)).testBit s) 0 a c < 1000) := ⟨_, rfl⟩
  have ep : ∀ c, p c = decide (dsN τ (fun s => (L ^^^ (L &&& d)).testBit s) 0 a c < 1000) := fun c => by rw [hp]
  have pa : p a = true := by
    rw [ep]
    have : dsN τ (fun s => (L ^^^ (L &&& d)).testBit s) 0 a a = 0 := dJ_fr _
    rw [this]; rfl
  have pb : p b = false := by
    rw [ep]
    exact decide_eq_false (by omega)
  have adjp : ∀ c u s, adj (τ 1) (τ 2) (fun s => (L ^^^ (L &&& d)).testBit s) (tS τ) c u s → p u = true → p c = true := by
    intro c u s h hu
    rw [ep] at hu ⊢
    have hu := of_decide_eq_true hu
    have h6 := (reach_k (m := tS τ) (A := τ 1) (B := τ 2) (L := L ^^^ (L &&& d)) (fr := a) (tC τ - 1) (by omega) u).1 hu
    have h7 : dsN τ (fun s => (L ^^^ (L &&& d)).testBit s) 0 a c ≤ dsN τ (fun s => (L ^^^ (L &&& d)).testBit s) 0 a u + coF 0 s := dJ_ok (wf_E hw) (by omega) h
    have h8 := co_1 0 s
    have h6' : dsN τ (fun s => (L ^^^ (L &&& d)).testBit s) 0 a u ≤ tC τ - 1 := h6
    exact decide_eq_true (by omega)
  refine ⟨mskN p (tC τ), mskN_lt _ _, ?_, ?_⟩
  · unfold haB
    rw [mskN_bit, mskN_bit, pa, pb, decide_eq_true ha]
    simp
  · have e10 : popN d ≥ sumN (fun i => if d.testBit i then 1 else 0) (tS τ) := by
      unfold popN
      have : ∀ k, sumN (fun i => if d.testBit i then 1 else 0) (tS τ) ≤ sumN (fun i => if d.testBit i then 1 else 0) (tS τ + k) := by
        intro k
        induction k with
        | zero => exact Nat.le_refl _
        | succ k ih => rw [← Nat.add_assoc, sumN_s]; omega
      have h := this (10 - tS τ)
      rwa [show tS τ + (10 - tS τ) = 10 by omega] at h
    refine Nat.le_trans (sumN_mono (fun s hs => ?_)) e10
    obtain ⟨q1, q2, -⟩ := hw.2.2.2.2.2.2 s hs
    by_cases hc : L.testBit s = true ∧ crB τ (mskN p (tC τ)) s = true
    · rw [if_pos hc]
      have hd1 : d.testBit s = true := by
        cases hq : d.testBit s
        · exfalso
          have ho : (L ^^^ (L &&& d)).testBit s = true := by rw [xd_bit, hc.1, hq]; rfl
          have h2 := hc.2
          unfold crB at h2
          rw [mskN_bit, mskN_bit, decide_eq_true q1, decide_eq_true q2, Bool.true_and, Bool.true_and] at h2
          cases e1 : p (τ 1 s)
          · cases e2 : p (τ 2 s)
            · rw [e1, e2] at h2; cases h2
            · rw [adjp (τ 1 s) (τ 2 s) s ⟨hs, ho, Or.inl ⟨rfl, rfl⟩⟩ e2] at e1; cases e1
          · cases e2 : p (τ 2 s)
            · rw [adjp (τ 2 s) (τ 1 s) s ⟨hs, ho, Or.inr ⟨rfl, rfl⟩⟩ e1] at e2; cases e2
            · rw [e1, e2] at h2; cases h2
        · rfl
      rw [if_pos hd1]
      exact Nat.le_refl _
    · rw [if_neg hc]; omega
theorem cut_b {L a b H : Nat} (hw : wfT τ) (hL : L < 2 ^ tS τ) (hH : haB a b H = true) : ∃ d, d < 1024 ∧ dkB τ L a b d = true ∧ popN d = crN τ L H := by
  have hS : tS τ ≤ 10 := hw.2.1
  obtain ⟨p, hp⟩ : ∃ p : Nat → Bool, p = fun s => L.testBit s && crB τ H s := ⟨_, rfl⟩
  have ep : ∀ s, p s = (L.testBit s && crB τ H s) := fun s => by rw [hp]
  unfold haB at hH
  simp only [Bool.and_eq_true, Bool.not_eq_true'] at hH
  have hd : mskN p (tS τ) < 1024 := Nat.lt_of_lt_of_le (mskN_lt _ _) (show 2 ^ tS τ ≤ 2 ^ 10 from Nat.pow_le_pow_right (by decide) hS)
  refine ⟨mskN p (tS τ), hd, ?_, ?_⟩
  · have h1 : mskN p (tS τ) &&& L = mskN p (tS τ) := sub_iff.mpr (fun j hj => by
      rw [mskN_bit, ep] at hj
      simp only [Bool.and_eq_true] at hj
      exact hj.2.1)
    have key : ∀ k c, dJ (tS τ) (τ 1) (τ 2) (fun s => (L ^^^ (L &&& mskN p (tS τ))).testBit s) (coF 0) a k c < 1000 → H.testBit c = true := by
      intro k
      induction k with
      | zero =>
        intro c hc
        have hc : (if c = a then 0 else 1000) < 1000 := hc
        by_cases e : c = a
        · rw [e]; exact hH.1
        · rw [if_neg e] at hc; omega
      | succ k ih =>
        intro c hc
        by_cases hl : dJ (tS τ) (τ 1) (τ 2) (fun s => (L ^^^ (L &&& mskN p (tS τ))).testBit s) (coF 0) a (k + 1) c < dJ (tS τ) (τ 1) (τ 2) (fun s => (L ^^^ (L &&& mskN p (tS τ))).testBit s) (coF 0) a k c
        · obtain ⟨u, s, ⟨h1, h2, h3⟩, he⟩ := dJ_imp hl
          have hu := ih u (by omega)
          have h2 : (L ^^^ (L &&& mskN p (tS τ))).testBit s = true := h2
          rw [xd_bit, mskN_bit, decide_eq_true h1, Bool.true_and, ep] at h2
          have hx : crB τ H s = false := by
            cases e1 : L.testBit s <;> cases e2 : crB τ H s <;> rw [e1, e2] at h2 <;> first | rfl | cases h2
          unfold crB at hx
          have hx : H.testBit (τ 1 s) = H.testBit (τ 2 s) := by
            cases e1 : H.testBit (τ 1 s) <;> cases e2 : H.testBit (τ 2 s) <;> rw [e1, e2] at hx <;> first | rfl | cases hx
          rcases h3 with ⟨a1, a2⟩ | ⟨a1, a2⟩
          · rw [← a1, hx, a2]; exact hu
          · rw [← a1, ← hx, a2]; exact hu
        · exact ih c (by
            have := dJ_le (m := tS τ) (A := τ 1) (B := τ 2) (op := fun s => (L ^^^ (L &&& mskN p (tS τ))).testBit s) (co := coF 0) (fr := a) k c
            omega)
    have h2 : 1000 ≤ dsN τ (fun s => (L ^^^ (L &&& mskN p (tS τ))).testBit s) 0 a b := by
      by_cases h : dsN τ (fun s => (L ^^^ (L &&& mskN p (tS τ))).testBit s) 0 a b < 1000
      · have := key (tC τ - 1) b h
        rw [hH.2] at this
        cases this
      · omega
    unfold dkB
    rw [decide_eq_true h1, decide_eq_true h2]
    rfl
  · unfold popN crN
    rw [sumN_x (n := tS τ) hS (fun k a b => by rw [mskN_bit, decide_eq_false (by omega)]; rfl)]
    refine sumN_cong (fun s hs => ?_)
    rw [mskN_bit, decide_eq_true hs, Bool.true_and, ep]
    cases L.testBit s <;> cases crB τ H s <;> rfl
theorem cut_e {L a b : Nat} (hw : wfT τ) (hL : L < 2 ^ tS τ) (ha : a < tC τ) (hb : b < tC τ) : mnF (haB a b) (crN τ L) 10 (2 ^ tC τ) = mnF (dkB τ L a b) popN 10 1024 := by
  apply Nat.le_antisymm
  · rcases mf_at (p := dkB τ L a b) (f := popN) (x := 10) 1024 with h | ⟨d, h1, h2, h3⟩
    · rw [h]; exact mf_x _
    · obtain ⟨H, g1, g2, g3⟩ := cut_a hw ha hb h2
      rw [h3]
      exact Nat.le_trans (mf_le _ H g1 g2) g3
  · rcases mf_at (p := haB a b) (f := crN τ L) (x := 10) (2 ^ tC τ) with h | ⟨H, h1, h2, h3⟩
    · rw [h]; exact mf_x _
    · obtain ⟨d, g1, g2, g3⟩ := cut_b (L := L) (a := a) (b := b) hw hL h2
      rw [h3, ← g3]
      exact mf_le _ d g1 g2
theorem c_cr {L H : Nat} (hw : wfT τ) (hT : TC t τ M) (hL : L < 1024) (hH : H < 2 ^ 31) : f_X10_crossing t (nI H) (nI L) M = some (nI (crN τ L H)) := by
  have hS : tS τ ≤ 10 := hw.2.1
  have key : f_X10_crossing_L5 t FU (nI H) (nI L) 0 0 M = some (nI (crN τ L H)) := by
    refine loop0 (fun fu s => f_X10_crossing_L5 t fu (nI H) (nI L) (nI (sumN (fun s => if L.testBit s = true ∧ crB τ H s = true then 1 else 0) s)) (nI s) M) _ (tS τ) (by omega) (fun fu => ?_) (fun fu s hs => ?_)
    · show f_X10_crossing_L5 t (fu + 1) _ _ _ _ M = _
      rw [f_X10_crossing_L5, hT.2.2.1, if_pos (nI_le (Nat.le_refl _) (by omega))]
      rfl
    · show f_X10_crossing_L5 t (fu + 1) _ _ _ _ M = f_X10_crossing_L5 t fu _ _ _ _ M
      rw [f_X10_crossing_L5, hT.2.2.1, if_neg (nI_ge hs (by omega)), bit_n (by omega) (by omega), c_cross hw hT hs hH, sb, sumN_s]
      simp only [lt_def]
      rw [nI_1 s]
      cases hb : L.testBit s
      · rw [if_neg Bool.false_ne_true, if_neg (show ¬ (0 : Int32) = 1 by decide), if_neg (fun z => Bool.false_ne_true z.1)]
        rfl
      · rw [if_pos rfl, if_pos rfl]
        cases hc : crB τ H s
        · rw [if_neg Bool.false_ne_true, if_pos rfl, if_neg (fun z => Bool.false_ne_true z.2)]
          rfl
        · rw [if_pos rfl, if_neg ne10, if_pos ⟨rfl, rfl⟩, nI_1]
  unfold f_X10_crossing
  rw [key, sb]
theorem c_cutF {L a b : Nat} (hw : wfT τ) (hT : TC t τ M) (hL : L < 1024) (ha : a < tC τ) (hb : b < tC τ) : f_X10_fewestBetween t (nI a) (nI b) (nI L) M = some (nI (mnF (haB a b) (crN τ L) 10 (2 ^ tC τ))) := by
  have hC : tC τ ≤ 7 := hw.1
  have p7 : 2 ^ tC τ ≤ 2 ^ 7 := Nat.pow_le_pow_right (by decide) hC
  have key : f_X10_fewestBetween_L7 t FU (nI a) (nI b) (nI L) 10 0 M = some (nI (mnF (haB a b) (crN τ L) 10 (2 ^ tC τ))) := by
    refine loop0 (fun fu H => f_X10_fewestBetween_L7 t fu (nI a) (nI b) (nI L) (nI (mnF (haB a b) (crN τ L) 10 H)) (nI H) M) _ (2 ^ tC τ) (by omega) (fun fu => ?_) (fun fu H hH => ?_)
    · show f_X10_fewestBetween_L7 t (fu + 1) _ _ _ _ _ M = _
      rw [f_X10_fewestBetween_L7, hT.2.1, sh1 (by omega), if_pos (nI_le (Nat.le_refl _) (by omega))]
    · show f_X10_fewestBetween_L7 t (fu + 1) _ _ _ _ _ M = f_X10_fewestBetween_L7 t fu _ _ _ _ _ M
      have c10 := cr_le (L := L) (H := H) hw
      have m10 := mf_x (p := haB a b) (f := crN τ L) (x := 10) H
      rw [f_X10_fewestBetween_L7, hT.2.1, sh1 (by omega), if_neg (nI_ge hH (by omega)), bit_n (by omega) (by omega), bit_n (by omega) (by omega), c_cr hw hT hL (by omega), sb, c_min (by omega) (by omega), mf_s]
      simp only [lt_def]
      rw [nI_1 H]
      have eh : haB a b H = (H.testBit a && !(H.testBit b)) := rfl
      rw [eh]
      cases h1 : H.testBit a
      · rw [if_neg Bool.false_ne_true, if_neg (show ¬ (0 : Int32) = 1 by decide), if_neg (fun z => Bool.false_ne_true z.1)]
      · rw [if_pos rfl, if_pos rfl]
        cases h2 : H.testBit b
        · rw [if_neg Bool.false_ne_true, if_pos rfl]
          by_cases hl : crN τ L H < mnF (haB a b) (crN τ L) 10 H
          · rw [if_pos hl, if_pos ⟨rfl, hl⟩]
          · rw [if_neg hl, if_neg (fun z => hl z.2)]
        · rw [if_pos rfl, if_neg ne10, if_neg (fun z => Bool.false_ne_true z.1)]
  unfold f_X10_fewestBetween
  rw [key, sb]
theorem r_cutF {L a b : Nat} (R : RelP t v τ ρ F M) (hL : L < 1024) (ha : a < tC τ) (hb : b < tC τ) : ∃ M', f_X12_cut_L35 FU (nI a) (nI b) (nI L) 10 0 M = some (nI (mnF (dkB τ L a b) popN 10 1024), M') ∧ RelP t v τ ρ F M' := by
  have hw := R.1
  have hC : tC τ ≤ 7 := hw.1
  obtain ⟨z, e, q1, q2⟩ := loopQ (fun fu d (s : Int32 × Mem) => f_X12_cut_L35 fu (nI a) (nI b) (nI L) s.1 (nI d) s.2) (fun d s => RelP t v τ ρ F s.2 ∧ s.1 = nI (mnF (dkB τ L a b) popN 10 d)) (fun z => z.1 = nI (mnF (dkB τ L a b) popN 10 1024) ∧ RelP t v τ ρ F z.2) 1024 (by omega) (fun fu s hP => by
      refine ⟨s, ?_, hP.2, hP.1⟩
      show f_X12_cut_L35 (fu + 1) _ _ _ _ _ _ = _
      rw [f_X12_cut_L35, li 1024, if_pos (nI_le (Nat.le_refl _) (by omega))]) (fun fu d s hd hP => by
      have p10 := pop_10 d
      have m10 := mf_x (p := dkB τ L a b) (f := popN) (x := 10) d
      right
      show ∃ s', f_X12_cut_L35 (fu + 1) _ _ _ _ _ _ = f_X12_cut_L35 fu _ _ _ _ _ _ ∧ _
      rw [f_X12_cut_L35, li 1024, if_neg (nI_ge hd (by omega)), andc_n, r_bits hd, sb, mf_s, hP.2]
      simp only [lt_def, sb]
      rw [nI_1 d]
      by_cases hs : d &&& L = d
      · rw [if_pos (by rw [xor_z.mpr hs]; rfl)]
        by_cases hp : popN d < mnF (dkB τ L a b) popN 10 d
        · rw [if_pos (nI_lt' hp (by omega)), andc_n]
          obtain ⟨M1, e1, f1, r1⟩ := r_fillsLit (L := L ^^^ (L &&& d)) (fr := a) hw hP.1.tr (by omega) (andc_l hL)
          have hds := ds_le (τ := τ) (fun s => (L ^^^ (L &&& d)).testBit s) 0 a b
          rw [e1, sb, ag_n (by omega) (by omega), sb, r1 b (by omega), li 1000]
          by_cases hr : dsN τ (fun s => (L ^^^ (L &&& d)).testBit s) 0 a b < 1000
          · have : dkB τ L a b d = false := by
              unfold dkB
              rw [decide_eq_false (show ¬ 1000 ≤ dsN τ (fun s => (L ^^^ (L &&& d)).testBit s) 0 a b by omega), Bool.and_false]
            rw [if_pos (nI_lt' hr (by omega)), if_neg (fun z => by rw [this] at z; cases z.1)]
            exact ⟨(_, M1), rfl, hP.1.fm f1 (by decide), rfl⟩
          · have : dkB τ L a b d = true := by
              unfold dkB
              rw [decide_eq_true hs, decide_eq_true (show 1000 ≤ dsN τ (fun s => (L ^^^ (L &&& d)).testBit s) 0 a b by omega)]
              rfl
            rw [if_neg (nI_nlt' (nI_le (by omega) (by omega))), if_pos ⟨this, hp⟩]
            exact ⟨(_, M1), rfl, hP.1.fm f1 (by decide), rfl⟩
        · rw [if_neg (nI_nlt' (nI_le (by omega) (by omega))), if_neg (fun z => hp z.2)]
          exact ⟨(_, s.2), rfl, hP.1, rfl⟩
      · have hx : ¬ d ^^^ (d &&& L) = 0 := fun z => hs (xor_z.mp z)
        have hl : d ^^^ (d &&& L) < 1024 := andc_l hd
        have : dkB τ L a b d = false := by
          unfold dkB
          rw [decide_eq_false hs, Bool.false_and]
        rw [if_neg (nI_ne0 (by omega) (by omega)), if_neg (fun z => by rw [this] at z; cases z.1)]
        exact ⟨(_, s.2), rfl, hP.1, rfl⟩) (10, M) ⟨R, rfl⟩
  refine ⟨z.2, ?_, q2⟩
  rw [show f_X12_cut_L35 FU (nI a) (nI b) (nI L) 10 0 M = some z from e, ← q1]
end CUT
theorem s_cut {M : Mem} (R : Rel M) (x1 x2 : Int32) : OkA (f_X11_cut x1 x2 M) (f_X12_cut x1 x2 M) := by
  have R0 := R
  obtain ⟨t, v, τ, ρ, F, R⟩ := R
  have hw := R.1
  have hT : TC t τ M := R.2.2.1
  have hV : TR v τ M := R.2.2.2.1
  have h9 : M.2.2 0 9 = some t := R.2.2.2.2.2.2.1.1
  have hC : tC τ ≤ 7 := hw.1
  have hl := lit_lt (ρ := ρ) hw
  rcases ar_in x1 (n := tC τ) (by omega) with h | ⟨a, ha, rfl⟩
  · refine ⟨-1, M, ?_, ?_, R0⟩
    · unfold f_X11_cut
      rw [c_isCorner_o hT h9 h, sb, if_pos rfl]
    · unfold f_X12_cut
      rw [r_isCorner_o hw hV h, sb, if_pos rfl]
  rcases ar_in x2 (n := tC τ) (by omega) with h | ⟨b, hb, rfl⟩
  · refine ⟨-1, M, ?_, ?_, R0⟩
    · unfold f_X11_cut
      rw [c_isCorner_i hw hT h9 ha, sb, if_neg ne10, c_isCorner_o hT h9 h, sb, if_pos rfl]
    · unfold f_X12_cut
      rw [r_isCorner_i hw hV ha, sb, if_neg ne10, r_isCorner_o hw hV h, sb, if_pos rfl]
  by_cases e : nI a = nI b
  · refine ⟨-1, M, ?_, ?_, R0⟩
    · unfold f_X11_cut
      rw [c_isCorner_i hw hT h9 ha, sb, if_neg ne10, c_isCorner_i hw hT h9 hb, sb, if_neg ne10, if_pos e]
    · unfold f_X12_cut
      rw [r_isCorner_i hw hV ha, sb, if_neg ne10, r_isCorner_i hw hV hb, sb, if_neg ne10, if_pos e]
  obtain ⟨M5, e5, R5⟩ := r_litNow R
  obtain ⟨M6, e6, R6⟩ := r_cutF R5 hl ha hb
  refine ⟨nI (mnF (haB a b) (crN τ (litN τ ρ)) 10 (2 ^ tC τ)), M6, ?_, ?_, R6.rel⟩
  · unfold f_X11_cut
    rw [c_isCorner_i hw hT h9 ha, sb, if_neg ne10, c_isCorner_i hw hT h9 hb, sb, if_neg ne10, if_neg e, rT_n h9 hT.1, sb, c_lits hw hT R.2.2.2.2.1 R.2.1, sb, c_cutF hw hT hl ha hb, sb]
  · unfold f_X12_cut
    rw [r_isCorner_i hw hV ha, sb, if_neg ne10, r_isCorner_i hw hV hb, sb, if_neg ne10, if_neg e, e5, sb, e6, sb, cut_e (L := litN τ ρ) hw (mskN_lt _ _) ha hb]

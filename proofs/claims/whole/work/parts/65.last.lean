-- 65.last: pure: the last one is placed
theorem sum_add (f g : Nat → Nat) : ∀ n, sumN (fun k => f k + g k) n = sumN f n + sumN g n
  | 0 => rfl
  | n + 1 => by
    rw [sumN_s, sumN_s, sumN_s, sum_add f g n]
    omega
theorem lack_i {a b c : Nat} (ha : a ≤ 99) (hb : b ≤ 5994) (hc : c ≤ 5994) : ((nI a - nI b) - nI c).toInt = (a : Int) - b - c := by
  have e1 : (nI a - nI b).toInt = (a : Int) - b := pk_sub_toInt (by omega) (by omega)
  rw [Int32.toInt_sub, e1, nI_toInt (by omega : c < 2 ^ 31)]
  apply Int.bmod_eq_of_le <;> omega
section LST
variable {τ : Nat → Nat → Nat} {ρ tt : Nat → Nat} {t b la : Nat} {M M' : Mem}
def litP (τ : Nat → Nat → Nat) (ρ w : Nat → Nat) (la s : Nat) : Nat := if τ 3 s ≤ ltW ρ w la (τ 1 s) + ltW ρ w la (τ 2 s) then 1 else 0
def ganP (τ : Nat → Nat → Nat) (ρ w : Nat → Nat) (la c s : Nat) : Nat := if ¬ τ 3 s ≤ ltW ρ w la (τ 1 s) + ltW ρ w la (τ 2 s) ∧ τ 3 s ≤ ltW ρ w la (τ 1 s) + ltW ρ w la (τ 2 s) + ρ (6 + la) ∧ (τ 1 s = c ∨ τ 2 s = c) then 1 else 0
def wlN (w : Nat → Nat) (la c j : Nat) : Nat := if j < la then w j else if j = la then c else 0
theorem Lw_last {w : Nat → Nat} {c x : Nat} (hla : la < tY τ) (hz : ∀ j, la < j → j < tY τ → ρ (6 + j) = 0) : Lw τ ρ (wlN w la c) x = ltW ρ w la x + if c = x then ρ (6 + la) else 0 := by
  have e1 : Lw τ ρ (wlN w la c) x = sumN (fun y => if wlN w la c y = x then ρ (6 + y) else 0) (la + 1) := sumN_x (by omega) (fun k a b => by rw [hz k (by omega) b, ite_self])
  rw [e1, sumN_s]
  have e2 : sumN (fun y => if wlN w la c y = x then ρ (6 + y) else 0) la = ltW ρ w la x := sumN_cong (fun k hk => by
    rw [show wlN w la c k = w k from if_pos hk])
  rw [e2]
  have e3 : wlN w la c la = c := (if_neg (by omega)).trans (if_pos rfl)
  show ltW ρ w la x + (if wlN w la c la = x then ρ (6 + la) else 0) = _
  rw [e3]
theorem gn_e {p q g sp c x y : Nat} (hxy : x ≠ y) : (if sp ≤ (p + if c = x then g else 0) + (q + if c = y then g else 0) then 1 else 0) = (if sp ≤ p + q then 1 else 0) + (if ¬ sp ≤ p + q ∧ sp ≤ p + q + g ∧ (x = c ∨ y = c) then 1 else 0) := by
  by_cases ha : c = x
  · subst ha
    rw [if_pos rfl, if_neg hxy]
    split <;> split <;> split <;> omega
  · by_cases hb : c = y
    · subst hb
      rw [if_neg ha, if_pos rfl]
      split <;> split <;> split <;> omega
    · rw [if_neg ha, if_neg hb]
      split <;> split <;> split <;> omega
theorem ct_last {w : Nat → Nat} {c : Nat} (hw : wfT τ) (hla : la < tY τ) (hz : ∀ j, la < j → j < tY τ → ρ (6 + j) = 0) : ctN τ ρ (wlN w la c) = sumN (litP τ ρ w la) (tS τ) + sumN (ganP τ ρ w la c) (tS τ) := by
  rw [← sum_add]
  refine sumN_cong (fun s hs => ?_)
  obtain ⟨q1, q2, q3, -, -⟩ := hw.2.2.2.2.2.2 s hs
  rw [Lw_last hla hz, Lw_last hla hz]
  exact gn_e q3
theorem gan_le {w : Nat → Nat} {c : Nat} (hw : wfT τ) : ∀ s, s ≤ tS τ → sumN (ganP τ ρ w la c) s ≤ s
  | 0, _ => Nat.le_refl _
  | s + 1, h => by
    have := gan_le (w := w) (c := c) hw s (by omega)
    rw [sumN_s]
    have h1 : ganP τ ρ w la c s ≤ 1 := by unfold ganP; split <;> omega
    omega
theorem lit_le {w : Nat → Nat} : ∀ s, sumN (litP τ ρ w la) s ≤ s
  | 0 => Nat.le_refl _
  | s + 1 => by
    have := lit_le (w := w) s
    rw [sumN_s]
    have h1 : litP τ ρ w la s ≤ 1 := by unfold litP; split <;> omega
    omega
theorem c_gain {w : Nat → Nat} (hw : wfT τ) (wn : wfN τ ρ) (X : stX τ ρ t la M) (hla : la < tY τ) (hl : ∀ c, c < 7 → M.1 50 c = nI (ltW ρ w la c)) (h51 : ∀ c, c < 7 → M.1 51 c = 0) : ∃ M', f_X5_standLast_L18 60 FU t 0 0 M = some (nI (sumN (litP τ ρ w la) (tS τ)), M') ∧ FrD [51] M M' ∧ ∀ c, c < 7 → M'.1 51 c = nI (sumN (ganP τ ρ w la c) (tS τ)) := by
  have hS : tS τ ≤ 10 := hw.2.1
  have hC : tC τ ≤ 7 := hw.1
  have hY : tY τ ≤ 6 := hw.2.2.1
  have g6 := g6_le wn la (by omega)
  have gla := (wn.2.1 la (by omega)).1
  obtain ⟨A, eA, q1, q2, q3⟩ := loopQ (fun fu s (u : Int32 × Mem) => f_X5_standLast_L18 60 fu t u.1 (nI s) u.2) (fun s u => u.1 = nI (sumN (litP τ ρ w la) s) ∧ FrD [51] M u.2 ∧ ∀ c, c < 7 → u.2.1 51 c = nI (sumN (ganP τ ρ w la c) s)) (fun u => u.1 = nI (sumN (litP τ ρ w la) (tS τ)) ∧ FrD [51] M u.2 ∧ ∀ c, c < 7 → u.2.1 51 c = nI (sumN (ganP τ ρ w la c) (tS τ))) (tS τ) (by omega) (fun fu u hP => by
      have T' : TC t τ u.2 := X.1.of (fun a ha => hP.2.1.1 a (by simp; omega))
      refine ⟨u, ?_, hP⟩
      show f_X5_standLast_L18 60 (fu + 1) _ _ _ _ = _
      rw [f_X5_standLast_L18, T'.2.2.1, if_pos (nI_le (Nat.le_refl _) (by omega))]) (fun fu s u hs hP => by
      obtain ⟨p1, p2, p3⟩ := hP
      have T' : TC t τ u.2 := X.1.of (fun a ha => p2.1 a (by simp; omega))
      obtain ⟨h1, h2, h3⟩ := T'.2.2.2.2.2.2.2.1 s hs
      obtain ⟨r1, r2, r3, -, r4⟩ := hw.2.2.2.2.2.2 s hs
      have l50 : ∀ c, c < 7 → u.2.1 50 c = nI (ltW ρ w la c) := fun c hc => by rw [p2.1 50 (by decide)]; exact hl c hc
      have l48 : u.2.1 48 6 = nI la := by rw [p2.1 48 (by decide)]; exact X.2.2
      have l62 : u.2.1 (60 + 2) la = nI (ρ (6 + la)) := by rw [p2.1 (60 + 2) (by decide)]; exact X.g (by omega)
      have m1 := ltW_le (ρ := ρ) w (τ 1 s) la
      have m2 := ltW_le (ρ := ρ) w (τ 2 s) la
      have lk := lack_i (a := τ 3 s) (b := ltW ρ w la (τ 1 s)) (c := ltW ρ w la (τ 2 s)) (by omega) (by omega) (by omega)
      right
      show ∃ u', f_X5_standLast_L18 60 (fu + 1) _ _ _ _ = f_X5_standLast_L18 60 fu _ _ _ _ ∧ _
      rw [f_X5_standLast_L18, T'.2.2.1, if_neg (nI_ge hs (by omega)), ag_n (by omega) (by omega), sb, h3, ag_n (by omega) (by omega), sb, h1, ag_n (by omega) (by omega), sb, l50 _ (by omega), ag_n (by omega) (by omega), sb, h2, ag_n (by omega) (by omega), sb, l50 _ (by omega), lt_def]
      by_cases c1 : τ 3 s ≤ ltW ρ w la (τ 1 s) + ltW ρ w la (τ 2 s)
      · have n0 : ¬ (0 : Int32) < (nI (τ 3 s) - nI (ltW ρ w la (τ 1 s))) - nI (ltW ρ w la (τ 2 s)) := fun z => by
          have := Int32.lt_iff_toInt_lt.mp z
          rw [lk] at this
          have : (0 : Int) < _ := this
          omega
        rw [if_neg n0, lt_def, lt_def, nI_1, p1, nI_1]
        refine ⟨(_, u.2), rfl, ?_, p2, fun c hc => ?_⟩
        · rw [sumN_s, show litP τ ρ w la s = 1 from if_pos c1]
          rfl
        · rw [sumN_s, show ganP τ ρ w la c s = 0 from if_neg (fun z => z.1 c1)]; exact p3 c hc
      · have n0 : (0 : Int32) < (nI (τ 3 s) - nI (ltW ρ w la (τ 1 s))) - nI (ltW ρ w la (τ 2 s)) := by
          apply Int32.lt_iff_toInt_lt.mpr
          rw [lk]
          show (0 : Int) < _
          omega
        rw [if_pos n0, l48, ag_n (by omega) (by omega), sb, l62]
        have hlit : sumN (litP τ ρ w la) (s + 1) = sumN (litP τ ρ w la) s := by rw [sumN_s, show litP τ ρ w la s = 0 from if_neg c1]; rfl
        by_cases c2 : τ 3 s ≤ ltW ρ w la (τ 1 s) + ltW ρ w la (τ 2 s) + ρ (6 + la)
        · have n1 : ¬ nI (ρ (6 + la)) < (nI (τ 3 s) - nI (ltW ρ w la (τ 1 s))) - nI (ltW ρ w la (τ 2 s)) := fun z => by
            have := Int32.lt_iff_toInt_lt.mp z
            rw [lk, nI_toInt (by omega)] at this
            omega
          have s1 : (sI u.2 51 (τ 1 s) (nI (sumN (ganP τ ρ w la (τ 1 s)) s + 1))).1 51 (τ 2 s) = nI (sumN (ganP τ ρ w la (τ 2 s)) s) := (sI_ix (by omega)).trans (p3 _ (by omega))
          have s2 : (sI u.2 51 (τ 1 s) (nI (sumN (ganP τ ρ w la (τ 1 s)) s + 1))).1 (t + 2) s = nI (τ 2 s) := (congrFun (sI_cell (by have := isT_le X.1.1; omega)) s).trans h2
          rw [if_neg n1, sb, ag_n (by omega) (by omega), sb, p3 _ (by omega), nI_1, pg_n (by omega) (by omega), sb, ag_n (by omega) (by omega), sb, s2, ag_n (by omega) (by omega), sb, s1, nI_1, pg_n (by omega) (by omega), sb, lt_def, nI_1]
          refine ⟨(u.1, sI (sI u.2 51 (τ 1 s) (nI (sumN (ganP τ ρ w la (τ 1 s)) s + 1))) 51 (τ 2 s) (nI (sumN (ganP τ ρ w la (τ 2 s)) s + 1))), rfl, p1.trans (by rw [hlit]), (p2.tr (FrD.set (by decide))).tr (FrD.set (by decide)), fun c hc => ?_⟩
          show (sI (sI u.2 51 (τ 1 s) _) 51 (τ 2 s) _).1 51 c = _
          rw [sumN_s]
          by_cases e2 : c = τ 2 s
          · rw [e2, sI_same, show ganP τ ρ w la (τ 2 s) s = 1 from if_pos ⟨c1, c2, Or.inr rfl⟩]
          · rw [sI_ix e2]
            by_cases e1 : c = τ 1 s
            · rw [e1, sI_same, show ganP τ ρ w la (τ 1 s) s = 1 from if_pos ⟨c1, c2, Or.inl rfl⟩]
            · rw [sI_ix e1, show ganP τ ρ w la c s = 0 from if_neg (fun z => z.2.2.elim (fun q => e1 q.symm) (fun q => e2 q.symm))]
              exact p3 c hc
        · have n1 : nI (ρ (6 + la)) < (nI (τ 3 s) - nI (ltW ρ w la (τ 1 s))) - nI (ltW ρ w la (τ 2 s)) := by
            apply Int32.lt_iff_toInt_lt.mpr
            rw [lk, nI_toInt (by omega)]
            omega
          rw [if_pos n1, lt_def, nI_1]
          refine ⟨u, rfl, p1.trans (by rw [hlit]), p2, fun c hc => ?_⟩
          rw [sumN_s, show ganP τ ρ w la c s = 0 from if_neg (fun z => c2 z.2.1)]; exact p3 c hc) (0, M) ⟨rfl, FrD.rf, fun c hc => h51 c hc⟩
  refine ⟨A.2, ?_, q2, q3⟩
  rw [show f_X5_standLast_L18 60 FU t 0 0 M = some A from eA, ← q1]
theorem c_last {w : Nat → Nat} (hw : wfT τ) (wn : wfN τ ρ) (G : tgT τ ρ tt b) (X : stX τ ρ t la M) (hla : la < tY τ) (hz : ∀ j, la < j → j < tY τ → ρ (6 + j) = 0) (hwc : ∀ j, j < la → w j < tC τ) (hl : ∀ c, c < 7 → M.1 50 c = nI (ltW ρ w la c)) (hwh : ∀ j, j < la → M.1 52 j = nI (w j)) (h0 : ∀ j, la < j → j < 6 → M.1 52 j = 0) (st : nbS b M ∨ fbS τ tt b M) (pre : eqP tt w la ∨ ltP tt w la ∨ fbS τ tt b M) : ∃ M', f_X5_standLast 60 M = some M' ∧ SF M M' ∧ (∀ c, c < 7 → M'.1 50 c = M.1 50 c) ∧ (∀ j, j < la → M'.1 52 j = M.1 52 j) ∧ (∀ j, la < j → j < 6 → M'.1 52 j = 0) ∧ (fbS τ tt b M ∨ eqP tt w la → fbS τ tt b M') ∧ (nbS b M → ltP tt w la → nbS b M') := by
  have hS : tS τ ≤ 10 := hw.2.1
  have hC : tC τ ≤ 7 := hw.1
  have hY : tY τ ≤ 6 := hw.2.2.1
  have fF : SF M (wrM M 51 0 (fun _ => 0) 7) := ⟨⟨fun a ha => wr_cell (fun z => ha (by simp [z])), rfl⟩, congrFun (wr_cell (by decide)) 6, congrFun (wr_cell (by decide)) 2⟩
  obtain ⟨M1, e1, f1, r1⟩ := c_gain (M := wrM M 51 0 (fun _ => 0) 7) (w := w) hw wn (X.sf fF) hla (fun c hc => by rw [wr_cell (by decide)]; exact hl c hc) (fun c hc => by
    have := wr_at (M := M) (a := 51) (l := 0) (B := fun _ => (0 : Int32)) hc
    rw [Nat.zero_add] at this
    exact this)
  have s1 : ∀ a, a ≠ 51 → M1.1 a = M.1 a := fun a ha => (f1.1 a (by simpa using ha)).trans (wr_cell ha)
  have F1 : SF M M1 := ⟨⟨fun a ha => s1 a (fun z => ha (by simp [z])), f1.2⟩, by rw [s1 48 (by decide)], by rw [s1 48 (by decide)]⟩
  have ct : ∀ c, ctN τ ρ (wlN w la c) = sumN (litP τ ρ w la) (tS τ) + sumN (ganP τ ρ w la c) (tS τ) := fun c => ct_last hw hla hz
  have wlc : ∀ c, c < tC τ → ∀ y, y < tY τ → wlN w la c y < tC τ := fun c hc y hy => by
    unfold wlN
    split
    · exact hwc y (by omega)
    · split
      · exact hc
      · omega
  have lle := lit_le (τ := τ) (ρ := ρ) (la := la) (w := w) (tS τ)
  have wl_l : ∀ c j, j < la → wlN w la c j = w j := fun c j hj => if_pos hj
  have wl_e : ∀ c, wlN w la c la = c := fun c => (if_neg (by omega)).trans (if_pos rfl)
  have tla := G.2.2.1 la hla
  -- the corners one by one
  obtain ⟨A, eA, FA, A50, A52, A0, stA⟩ := loopQ (fun fu c (s : Mem) => f_X5_standLast_L128 60 fu t (nI (sumN (litP τ ρ w la) (tS τ))) (nI c) s) (fun c s => SF M s ∧ (∀ x, x < 7 → s.1 50 x = M.1 50 x) ∧ (∀ x, x < 7 → s.1 51 x = nI (sumN (ganP τ ρ w la x) (tS τ))) ∧ (∀ j, j < la → s.1 52 j = M.1 52 j) ∧ (∀ j, la < j → j < 6 → s.1 52 j = 0) ∧ ((fbS τ tt b M → fbS τ tt b s) ∧ (nbS b M → ltP tt w la → nbS b s) ∧ (nbS b M → eqP tt w la → (c ≤ tt la → nbS b s) ∧ (tt la < c → fbS τ tt b s)))) (fun s => SF M s ∧ (∀ x, x < 7 → s.1 50 x = M.1 50 x) ∧ (∀ j, j < la → s.1 52 j = M.1 52 j) ∧ (∀ j, la < j → j < 6 → s.1 52 j = 0) ∧ ((fbS τ tt b M → fbS τ tt b s) ∧ (nbS b M → ltP tt w la → nbS b s) ∧ (nbS b M → eqP tt w la → fbS τ tt b s))) (tC τ) (by omega) (fun fu s hP => by
      obtain ⟨p1, p2, p3, p4, p5, p6, p7, p8⟩ := hP
      have X' := X.sf p1
      refine ⟨s, ?_, p1, p2, p4, p5, p6, p7, fun a b => (p8 a b).2 tla⟩
      show f_X5_standLast_L128 60 (fu + 1) _ _ _ _ = _
      rw [f_X5_standLast_L128, X'.1.2.1, if_pos (nI_le (Nat.le_refl _) (by omega))]) (fun fu c s hc hP => by
      obtain ⟨p1, p2, p3, p4, p5, p6, p7, p8⟩ := hP
      have X' := X.sf p1
      have gle := gan_le (ρ := ρ) (la := la) (w := w) (c := c) hw (tS τ) (Nat.le_refl _)
      have hcb := G.2.2.2.2.1 (wlN w la c) (wlc c hc)
      have b20 : b ≤ 10 := by rw [← G.2.2.2.1]; exact ct_10 hw _
      right
      show ∃ s', f_X5_standLast_L128 60 (fu + 1) _ _ _ _ = f_X5_standLast_L128 60 fu _ _ _ _ ∧ _
      rw [f_X5_standLast_L128, X'.1.2.1, if_neg (nI_ge hc (by omega)), ag_n (by omega) (by omega), sb, sb, p3 c (by omega), nI_add, ← ct c]
      -- what stands now as most
      obtain ⟨m, hm, em⟩ : ∃ m, m ≤ b ∧ s.1 48 1 = nI m := by
        rcases st with h | h
        · rcases pre with q | q | q
          · by_cases hh : c ≤ tt la
            · obtain ⟨m, m1, m2⟩ := (p8 h q).1 hh; exact ⟨m, by omega, m2⟩
            · exact ⟨b, Nat.le_refl _, ((p8 h q).2 (by omega)).1⟩
          · obtain ⟨m, m1, m2⟩ := p7 h q; exact ⟨m, by omega, m2⟩
          · exact ⟨b, Nat.le_refl _, (p6 q).1⟩
        · exact ⟨b, Nat.le_refl _, (p6 h).1⟩
      rw [em]
      have ltc : ltP tt w la → ctN τ ρ (wlN w la c) < b := fun ⟨j, j1, j2, j3⟩ => G.2.2.2.2.2 (wlN w la c) j (wlc c hc) (by omega) (fun i hi => by rw [wl_l c i (by omega)]; exact j2 i hi) (by rw [wl_l c j j1]; exact j3)
      by_cases hgt : m < ctN τ ρ (wlN w la c)
      · rw [if_neg (nI_ge hgt (by omega))]
        let A1 : Mem := sI s 48 1 (nI (ctN τ ρ (wlN w la c)))
        have a6 : A1.1 48 6 = nI la := (sI_ix (by decide)).trans X'.2.2
        let A2 : Mem := sI A1 52 la (nI c)
        let A3 : Mem := cpM A2 52 49 0 0 6
        have F3 : SF M A3 := (p1.tr ((SF.set (by decide) (Or.inr ⟨by decide, by decide⟩)).tr (SF.set (by decide) (Or.inl (by decide))))).tr ⟨⟨fun a ha => cp_cell (fun z => ha (by simp [z])), rfl⟩, congrFun (cp_cell (by decide)) 6, congrFun (cp_cell (by decide)) 2⟩
        have k50 : A3.1 50 = s.1 50 := (cp_cell (by decide)).trans ((sI_cell (by decide)).trans (sI_cell (by decide)))
        have k51 : A3.1 51 = s.1 51 := (cp_cell (by decide)).trans ((sI_cell (by decide)).trans (sI_cell (by decide)))
        have k52 : A3.1 52 = A2.1 52 := cp_cell (by decide)
        have k521 : ∀ j, j ≠ la → A3.1 52 j = s.1 52 j := fun j hj => by
          rw [k52]
          exact (sI_ix hj).trans (congrFun (sI_cell (by decide)) j)
        have k481 : A3.1 48 1 = nI (ctN τ ρ (wlN w la c)) := (congrFun ((cp_cell (by decide)).trans (sI_cell (by decide))) 1).trans sI_same
        have k49 : ∀ j, j < 6 → A3.1 49 j = A2.1 52 j := fun j hj => by
          show (cpM A2 52 49 0 0 6).1 49 j = _
          rw [cp1, if_pos ⟨rfl, by omega, by omega⟩, show 0 + (j - 0) = j by omega]
        refine ⟨A3, ?_, F3, fun x hx => by rw [k50]; exact p2 x hx, fun x hx => by rw [k51]; exact p3 x hx, fun j hj => (k521 j (by omega)).trans (p4 j hj), fun j j1 j2 => (k521 j (by omega)).trans (p5 j j1 j2), ?_, ?_, ?_⟩
        · rw [lt_def]
          show (pg A1 52 6 (A1.1 48 6) (nI c)).bind _ = _
          rw [a6, pg_n (by omega) (by omega), sb, li 6, show (0 : Int32) = nI 0 from rfl, cp_n (by omega) (by omega) (by omega) (by omega), sb, lt_def, nI_1]
        · intro h
          exfalso
          have h1 := (p6 h).1
          rw [em] at h1
          have := nI_inj (by omega) (by omega) h1
          omega
        · intro _ h2
          exact ⟨_, ltc h2, k481⟩
        · intro h1 h2
          by_cases e : c = tt la
          · refine ⟨fun z => absurd z (by omega), fun _ => ?_⟩
            have ecb : ctN τ ρ (wlN w la c) = b := by
              rw [← G.2.2.2.1]
              refine ct_cong (fun y hy hg => ?_)
              rcases Nat.lt_trichotomy y la with q | q | q
              · rw [wl_l c y q]; exact h2 y q
              · rw [q, wl_e, e]
              · exact absurd (hz y q hy) hg
            refine ⟨by rw [k481, ecb], fun j hj => ?_⟩
            rw [k49 j (by omega)]
            by_cases ej : j = la
            · rw [ej, ← e]; exact sI_same
            · refine (sI_ix ej).trans ((congrFun (sI_cell (by decide)) j).trans ?_)
              rcases Nat.lt_or_ge j la with q | q
              · rw [p4 j q, hwh j q, h2 j q]
              · rw [p5 j (by omega) (by omega), G.1 j hj (hz j (by omega) hj)]; rfl
          · by_cases hlt : c < tt la
            · refine ⟨fun _ => ⟨_, ?_, k481⟩, fun z => absurd z (by omega)⟩
              exact G.2.2.2.2.2 (wlN w la c) la (wlc c hc) hla (fun i hi => by rw [wl_l c i hi]; exact h2 i hi) (by rw [wl_e]; exact hlt)
            · exfalso
              have h3 := ((p8 h1 h2).2 (by omega)).1
              rw [em] at h3
              have := nI_inj (by omega) (by omega) h3
              omega
      · rw [if_pos (nI_le (by omega) (by omega)), lt_def, nI_1]
        refine ⟨s, rfl, p1, p2, p3, p4, p5, p6, p7, fun h1 h2 => ⟨fun h3 => (p8 h1 h2).1 (by omega), fun h3 => ?_⟩⟩
        by_cases e : c = tt la
        · exfalso
          obtain ⟨m', m1, m2⟩ := (p8 h1 h2).1 (by omega)
          rw [em] at m2
          have := nI_inj (by omega) (by omega) m2
          have ecb : ctN τ ρ (wlN w la c) = b := by
            rw [← G.2.2.2.1]
            refine ct_cong (fun y hy hg => ?_)
            rcases Nat.lt_trichotomy y la with q | q | q
            · rw [wl_l c y q]; exact h2 y q
            · rw [q, wl_e, e]
            · exact absurd (hz y q hy) hg
          omega
        · exact (p8 h1 h2).2 (by omega)) M1 ⟨F1, fun x hx => by rw [s1 50 (by decide)], r1, fun j hj => by rw [s1 52 (by decide)], fun j j1 j2 => by rw [s1 52 (by decide)]; exact h0 j j1 j2, fun h => ⟨by rw [s1 48 (by decide)]; exact h.1, fun j hj => by rw [s1 49 (by decide)]; exact h.2 j hj⟩, fun ⟨m, m1, m2⟩ _ => ⟨m, m1, by rw [s1 48 (by decide)]; exact m2⟩, fun ⟨m, m1, m2⟩ _ => ⟨fun _ => ⟨m, m1, by rw [s1 48 (by decide)]; exact m2⟩, fun z => absurd z (by omega)⟩⟩
  refine ⟨A, ?_, FA, A50, A52, A0, fun h => ?_, stA.2.1⟩
  · unfold f_X5_standLast
    rw [rT_n X.2.1.2.1 X.1.1, sb, c_fill (by omega), sb, e1, sb, show f_X5_standLast_L128 60 FU t (nI (sumN (litP τ ρ w la) (tS τ))) 0 M1 = some A from eA, sb]
  · rcases h with h | h
    · exact stA.1 h
    · rcases st with q | q
      · exact stA.2.2 q h
      · exact stA.1 q
end LST

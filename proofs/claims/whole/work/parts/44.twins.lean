-- 44.twins: pure: twins
theorem ab_n {p q : Nat} (hp : p ≤ 99) (hq : q ≤ 99) : (if 0 ≤ nI p - nI q then nI p - nI q else 0 - (nI p - nI q)) = nI ((p - q) + (q - p)) ∧ (if 0 ≤ nI p - nI q then nI p - nI q else -(nI p - nI q)) = nI ((p - q) + (q - p)) := by
  by_cases h : q ≤ p
  · rw [pk_sub h, if_pos (nI_pos' (by omega)), if_pos (nI_pos' (by omega)), show p - q + (q - p) = p - q by omega]
    exact ⟨rfl, rfl⟩
  · have hn : nI p - nI q < 0 := pk_sneg (by omega) (by omega)
    have e : (nI p - nI q).toInt = (p : Int) - q := pk_sub_toInt (by omega) (by omega)
    have e2 : (((q - p : Nat) : Int)) = 0 - ((p : Int) - q) := by omega
    have e3 : (((q - p : Nat) : Int)) = -((p : Int) - q) := by omega
    rw [if_neg (Int32.not_le.mpr hn), if_neg (Int32.not_le.mpr hn), show p - q + (q - p) = q - p by omega]
    constructor
    · apply Int32.toInt_inj.mp
      rw [Int32.toInt_sub, e, nI_toInt (by omega), e2]
      show ((0 : Int) - ((p : Int) - q)).bmod (2 ^ 32) = _
      apply Int.bmod_eq_of_le <;> omega
    · apply Int32.toInt_inj.mp
      rw [Int32.toInt_neg, e, nI_toInt (by omega), e3]
      apply Int.bmod_eq_of_le <;> omega
def apN (F : Nat → (Nat → Int32) → Int32) (τ : Nat → Nat → Nat) (ρ : Nat → Nat) (a b : Nat) : Nat := sumN (fun y => if ρ (12 + y) = 0 then (gwN F τ ρ y a - gwN F τ ρ y b) + (gwN F τ ρ y b - gwN F τ ρ y a) else 0) (tY τ)
-- the pairs, in order
def twS (A : Nat → Nat → Nat) (a b : Nat) : Option (Nat × Nat) → Option (Nat × Nat)
  | none => some (10 * a + b, A a b)
  | some q => if A a b < q.2 then some (10 * a + b, A a b) else some q
def twI (A : Nat → Nat → Nat) (a m : Nat) (s : Option (Nat × Nat)) : Option (Nat × Nat) := itr (fun k s => twS A a (a + 1 + k) s) m s
def twO (A : Nat → Nat → Nat) (W : Nat) : Nat → Option (Nat × Nat)
  | 0 => none
  | a + 1 => twI A a (W - (a + 1)) (twO A W a)
def twK (A : Nat → Nat → Nat) (W : Nat) (s : Option (Nat × Nat)) : Prop := ∀ q, s = some q → ∃ a b, a < b ∧ b < W ∧ q = (10 * a + b, A a b)
def twC : Option (Nat × Nat) → Int32 × Int32
  | none => (1, 595)
  | some q => (nI q.1, nI q.2)
def twR : Option (Nat × Nat) → Int32 × Int32
  | none => (-2, -2)
  | some q => (nI q.1, nI q.2)
theorem twS_l {A : Nat → Nat → Nat} {a b : Nat} {q : Nat × Nat} (h : A a b < q.2) : twS A a b (some q) = some (10 * a + b, A a b) := if_pos h
theorem twS_g {A : Nat → Nat → Nat} {a b : Nat} {q : Nat × Nat} (h : ¬ A a b < q.2) : twS A a b (some q) = some q := if_neg h
theorem twK_S {A : Nat → Nat → Nat} {W a b : Nat} {s : Option (Nat × Nat)} (h : twK A W s) (hab : a < b) (hb : b < W) : twK A W (twS A a b s) := by
  intro q hq
  cases s with
  | none =>
    cases hq
    exact ⟨a, b, hab, hb, rfl⟩
  | some r =>
    by_cases hl : A a b < r.2
    · rw [twS_l hl] at hq
      cases hq
      exact ⟨a, b, hab, hb, rfl⟩
    · rw [twS_g hl] at hq
      cases hq
      exact h _ rfl
theorem twK_I {A : Nat → Nat → Nat} {W a : Nat} {s : Option (Nat × Nat)} (h : twK A W s) : ∀ m, a + m < W → twK A W (twI A a m s)
  | 0, _ => h
  | m + 1, hm => twK_S (twK_I h m (by omega)) (by omega) (by omega)
theorem twK_O {A : Nat → Nat → Nat} {W : Nat} : ∀ a, a ≤ W → twK A W (twO A W a)
  | 0, _ => fun q hq => by cases hq
  | a + 1, ha => twK_I (twK_O a (by omega)) _ (by omega)
theorem twS_some {A : Nat → Nat → Nat} {a b : Nat} (s : Option (Nat × Nat)) : (twS A a b s).isSome = true := by
  cases s with
  | none => rfl
  | some q =>
    by_cases hl : A a b < q.2
    · rw [twS_l hl]
      rfl
    · rw [twS_g hl]
      rfl
theorem twI_some {A : Nat → Nat → Nat} {a : Nat} {s : Option (Nat × Nat)} : ∀ m, (0 < m ∨ s.isSome = true) → (twI A a m s).isSome = true
  | 0, h => h.resolve_left (by omega)
  | m + 1, _ => twS_some _
theorem twO_some {A : Nat → Nat → Nat} {W : Nat} (hW : 2 ≤ W) : ∀ a, 0 < a → (twO A W a).isSome = true
  | 0, h => absurd h (by omega)
  | 1, _ => twI_some (W - (0 + 1)) (Or.inl (by omega))
  | a + 2, _ => twI_some _ (Or.inr (twO_some hW (a + 1) (by omega)))
theorem twO_none {A : Nat → Nat → Nat} {W : Nat} (hW : W < 2) : twO A W W = none := by
  rcases (by omega : W = 0 ∨ W = 1) with rfl | rfl <;> rfl
section TWN
variable {n t v : Nat} {τ : Nat → Nat → Nat} {ρ : Nat → Nat} {F : Nat → (Nat → Int32) → Int32} {M : Mem}
theorem apN_le (hw : wfT τ) (a b : Nat) : apN F τ ρ a b ≤ 594 := by
  have hY : tY τ ≤ 6 := hw.2.2.1
  have h : apN F τ ρ a b ≤ tY τ * 99 := sumN_le (fun k hk => by
    have h1 := gwN_le (F := F) (τ := τ) (ρ := ρ) k a
    have h2 := gwN_le (F := F) (τ := τ) (ρ := ρ) k b
    split <;> omega)
  omega
theorem c_apart {lw a b : Nat} (C : CX n t τ ρ F M) (hL : isL lw) (ha : a < tW τ) (hb : b < tW τ) : ∃ M', f_X2_apart lw n (nI a) (nI b) M = some (nI (apN F τ ρ a b), M') ∧ FrD lwS M M' := by
  have hY : tY τ ≤ 6 := C.1.2.2.1
  obtain ⟨g, hg⟩ : ∃ g : Nat → Nat, g = fun y => if ρ (12 + y) = 0 then (gwN F τ ρ y a - gwN F τ ρ y b) + (gwN F τ ρ y b - gwN F τ ρ y a) else 0 := ⟨_, rfl⟩
  unfold apN
  rw [← hg]
  obtain ⟨z, e, q1, q2⟩ := loopQ (fun fu y (s : Int32 × Mem) => f_X2_apart_L6 lw n fu (nI a) (nI b) s.1 (nI y) s.2) (fun y s => FrD lwS M s.2 ∧ s.1 = nI (sumN g y)) (fun z => z.1 = nI (sumN g (tY τ)) ∧ FrD lwS M z.2) (tY τ) (by omega) (fun fu s hP => by
      have C' := C.fl hP.1
      refine ⟨s, ?_, hP.2, hP.1⟩
      show f_X2_apart_L6 lw n (fu + 1) _ _ _ _ _ = _
      rw [f_X2_apart_L6, rT_n C'.2.2.2.1.2.1 C'.2.2.1.1, sb, C'.2.2.1.2.2.2.1, if_pos (nI_le (Nat.le_refl _) (by omega))]) (fun fu y s hy hP => by
      have C' := C.fl hP.1
      have hm := (C.2.1.2.1 y (by omega)).2.1
      right
      show ∃ s', f_X2_apart_L6 lw n (fu + 1) _ _ _ _ _ = f_X2_apart_L6 lw n fu _ _ _ _ _ ∧ _
      rw [f_X2_apart_L6, rT_n C'.2.2.2.1.2.1 C'.2.2.1.1, sb, C'.2.2.1.2.2.2.1, if_neg (nI_ge hy (by omega)), c_home C'.2.2.2.1 C'.2.1 (by omega), sb, sumN_s]
      by_cases h0 : ρ (12 + y) = 0
      · obtain ⟨M1, e1, f1⟩ := c_glows C' hL hy ha
        obtain ⟨M2, e2, f2⟩ := c_glows (C'.fl f1) hL hy hb
        have eg : g y = (gwN F τ ρ y a - gwN F τ ρ y b) + (gwN F τ ρ y b - gwN F τ ρ y a) := by rw [hg]; exact if_pos h0
        rw [hm_0 h0, if_neg Bool.false_ne_true, if_pos rfl, e1, sb, e2, sb, (ab_n (gwN_le y a) (gwN_le y b)).1, lt_def, lt_def, lt_def, nI_1, hP.2, nI_add, ← eg]
        exact ⟨(_, M2), rfl, (hP.1.tr f1).tr f2, rfl⟩
      · have eg : g y = 0 := by rw [hg]; exact if_neg h0
        rw [hm_1 (by omega), if_pos rfl, if_neg ne10, lt_def, nI_1, eg]
        exact ⟨s, rfl, hP.1, hP.2⟩) (0, M) ⟨FrD.rf, rfl⟩
  refine ⟨z.2, ?_, q2⟩
  unfold f_X2_apart
  rw [show f_X2_apart_L6 lw n FU (nI a) (nI b) 0 0 M = some z from e, sb, q1]
theorem r_apart {x1 x2 x3 : Int32} {a b : Nat} (R : RelP t v τ ρ F M) (C : RX v τ ρ F M) (ha : a < tW τ) (hb : b < tW τ) : ∃ M', f_X12_twins_L64 FU x1 x2 x3 (nI a) (nI b) 0 0 M = some (nI (apN F τ ρ a b), M') ∧ FrN [101, 102] M M' := by
  have hY : tY τ ≤ 6 := C.1.2.2.1
  have hv : v ≤ 1 := R.tr.1
  obtain ⟨g, hg⟩ : ∃ g : Nat → Nat, g = fun y => if ρ (12 + y) = 0 then (gwN F τ ρ y a - gwN F τ ρ y b) + (gwN F τ ρ y b - gwN F τ ρ y a) else 0 := ⟨_, rfl⟩
  unfold apN
  rw [← hg]
  obtain ⟨z, e, q1, q2⟩ := loopQ (fun fu y (s : Int32 × Mem) => f_X12_twins_L64 fu x1 x2 x3 (nI a) (nI b) s.1 (nI y) s.2) (fun y s => FrN [101, 102] M s.2 ∧ s.1 = nI (sumN g y)) (fun z => z.1 = nI (sumN g (tY τ)) ∧ FrN [101, 102] M z.2) (tY τ) (by omega) (fun fu s hP => by
      have C' := C.fr hP.1.m (by decide)
      refine ⟨s, ?_, hP.2, hP.1⟩
      show f_X12_twins_L64 (fu + 1) _ _ _ _ _ _ _ _ = _
      rw [f_X12_twins_L64, C'.2.2.1.2.1, ag_n (by omega) (by omega), sb, C'.2.2.1.2.2.2.2.1, if_pos (nI_le (Nat.le_refl _) (by omega))]) (fun fu y s hy hP => by
      have C' := C.fr hP.1.m (by decide)
      have R' := R.fm hP.1.m (by decide)
      obtain ⟨M1, e1, f1⟩ := r_glows C' hy ha
      obtain ⟨M2, e2, f2⟩ := r_glows (C'.fr f1.m (by decide)) hy hb
      have R2 := (R'.fm f1.m (by decide)).fm f2.m (by decide)
      right
      show ∃ s', f_X12_twins_L64 (fu + 1) _ _ _ _ _ _ _ _ = f_X12_twins_L64 fu _ _ _ _ _ _ _ _ ∧ _
      rw [f_X12_twins_L64, C'.2.2.1.2.1, ag_n (by omega) (by omega), sb, C'.2.2.1.2.2.2.2.1, if_neg (nI_ge hy (by omega)), e1, sb, e2, sb, lt_def, r_isOut_o R2.1 R2.tr R2.nr hy R2.2.1, sb, sumN_s]
      by_cases h0 : ρ (12 + y) = 0
      · have eg : g y = (gwN F τ ρ y a - gwN F τ ρ y b) + (gwN F τ ρ y b - gwN F τ ρ y a) := by rw [hg]; exact if_pos h0
        rw [if_pos h0, if_neg ne10, (ab_n (gwN_le y a) (gwN_le y b)).2, lt_def, lt_def, lt_def, nI_1, hP.2, nI_add, ← eg]
        exact ⟨(_, M2), rfl, (hP.1.tr f1).tr f2, rfl⟩
      · have eg : g y = 0 := by rw [hg]; exact if_neg h0
        rw [if_neg h0, if_pos rfl, lt_def, nI_1, eg]
        exact ⟨(s.1, M2), rfl, (hP.1.tr f1).tr f2, hP.2⟩) (0, M) ⟨FrN.rf, rfl⟩
  refine ⟨z.2, ?_, q2⟩
  rw [show f_X12_twins_L64 FU x1 x2 x3 (nI a) (nI b) 0 0 M = some z from e, ← q1]
theorem c_alikeI {lw a : Nat} {s0 : Option (Nat × Nat)} (C : CX n t τ ρ F M) (hL : isL lw) (ha : a < tW τ) (hk : twK (apN F τ ρ) (tW τ) s0) : ∃ M', f_X2_mostAlike_L27 lw n FU (twC s0).1 (twC s0).2 (nI a) (nI (a + 1)) M = some ((twC (twI (apN F τ ρ) a (tW τ - (a + 1)) s0)).1, (twC (twI (apN F τ ρ) a (tW τ - (a + 1)) s0)).2, M') ∧ FrD lwS M M' := by
  have hW : tW τ ≤ 5 := C.1.2.2.2.1
  obtain ⟨z, e, q1, q2, q3⟩ := loopQ (fun fu k (s : Int32 × Int32 × Mem) => f_X2_mostAlike_L27 lw n fu s.1 s.2.1 (nI a) (nI (a + 1 + k)) s.2.2) (fun k s => FrD lwS M s.2.2 ∧ s.1 = (twC (twI (apN F τ ρ) a k s0)).1 ∧ s.2.1 = (twC (twI (apN F τ ρ) a k s0)).2) (fun z => z.1 = (twC (twI (apN F τ ρ) a (tW τ - (a + 1)) s0)).1 ∧ z.2.1 = (twC (twI (apN F τ ρ) a (tW τ - (a + 1)) s0)).2 ∧ FrD lwS M z.2.2) (tW τ - (a + 1)) (by omega) (fun fu s hP => by
      have C' := C.fl hP.1
      refine ⟨s, ?_, hP.2.1, hP.2.2, hP.1⟩
      show f_X2_mostAlike_L27 lw n (fu + 1) _ _ _ _ _ = _
      rw [f_X2_mostAlike_L27, rT_n C'.2.2.2.1.2.1 C'.2.2.1.1, sb, C'.2.2.1.2.2.2.2.1, if_pos (nI_le (by omega) (by omega))]) (fun fu k s hkk hP => by
      have C' := C.fl hP.1
      obtain ⟨M1, e1, f1⟩ := c_apart C' hL ha (b := a + 1 + k) (by omega)
      have h594 := apN_le (F := F) (ρ := ρ) C.1 a (a + 1 + k)
      have hi : twI (apN F τ ρ) a (k + 1) s0 = twS (apN F τ ρ) a (a + 1 + k) (twI (apN F τ ρ) a k s0) := rfl
      have hK := twK_I (a := a) hk k (by omega)
      right
      show ∃ s', f_X2_mostAlike_L27 lw n (fu + 1) _ _ _ _ _ = f_X2_mostAlike_L27 lw n fu _ _ _ _ _ ∧ _
      rw [f_X2_mostAlike_L27, rT_n C'.2.2.2.1.2.1 C'.2.2.1.1, sb, C'.2.2.1.2.2.2.2.1, if_neg (nI_ge (by omega) (by omega)), e1, sb, lt_def, lt_def, lt_def, nI_1, li 10, pk_mul, nI_add, hP.2.2]
      rw [hi]
      have p1 := hP.2.1
      have p2 := hP.2.2
      generalize twI (apN F τ ρ) a k s0 = S at hK p1 p2
      cases S with
      | none =>
        rw [if_neg (by
          show ¬ (595 : Int32) ≤ nI (apN F τ ρ a (a + 1 + k))
          rw [li 595]
          exact nI_ge (by omega) (by omega))]
        exact ⟨(_, _, M1), rfl, hP.1.tr f1, rfl, rfl⟩
      | some q =>
        obtain ⟨c, d, -, -, eq⟩ := hK q rfl
        have h5 : q.2 ≤ 594 := by rw [eq]; exact apN_le C.1 c d
        by_cases h : apN F τ ρ a (a + 1 + k) < q.2
        · rw [if_neg (by
            show ¬ nI q.2 ≤ nI (apN F τ ρ a (a + 1 + k))
            exact nI_ge h (by omega))]
          refine ⟨(_, _, M1), rfl, hP.1.tr f1, ?_, ?_⟩ <;> (rw [twS_l h]; rfl)
        · rw [if_pos (by
            show nI q.2 ≤ nI (apN F τ ρ a (a + 1 + k))
            exact nI_le (by omega) (by omega))]
          refine ⟨(s.1, s.2.1, M1), by rw [p2]; rfl, hP.1.tr f1, ?_, ?_⟩
          · rw [twS_g h]; exact p1
          · rw [twS_g h]; exact p2) ((twC s0).1, (twC s0).2, M) ⟨FrD.rf, rfl, rfl⟩
  refine ⟨z.2.2, ?_, q3⟩
  rw [show f_X2_mostAlike_L27 lw n FU (twC s0).1 (twC s0).2 (nI a) (nI (a + 1)) M = some z from e, ← q1, ← q2]
theorem r_alikeI {x1 : Int32} {a : Nat} {s0 : Option (Nat × Nat)} (R : RelP t v τ ρ F M) (C : RX v τ ρ F M) (ha : a < tW τ) (hk : twK (apN F τ ρ) (tW τ) s0) : ∃ M', f_X12_twins_L44 FU x1 (twR s0).1 (twR s0).2 (nI a) (nI (a + 1)) M = some ((twR (twI (apN F τ ρ) a (tW τ - (a + 1)) s0)).1, (twR (twI (apN F τ ρ) a (tW τ - (a + 1)) s0)).2, M') ∧ FrN [101, 102] M M' := by
  have hW : tW τ ≤ 5 := C.1.2.2.2.1
  have hv : v ≤ 1 := R.tr.1
  obtain ⟨z, e, q1, q2, q3⟩ := loopQ (fun fu k (s : Int32 × Int32 × Mem) => f_X12_twins_L44 fu x1 s.1 s.2.1 (nI a) (nI (a + 1 + k)) s.2.2) (fun k s => FrN [101, 102] M s.2.2 ∧ s.1 = (twR (twI (apN F τ ρ) a k s0)).1 ∧ s.2.1 = (twR (twI (apN F τ ρ) a k s0)).2) (fun z => z.1 = (twR (twI (apN F τ ρ) a (tW τ - (a + 1)) s0)).1 ∧ z.2.1 = (twR (twI (apN F τ ρ) a (tW τ - (a + 1)) s0)).2 ∧ FrN [101, 102] M z.2.2) (tW τ - (a + 1)) (by omega) (fun fu s hP => by
      have C' := C.fr hP.1.m (by decide)
      refine ⟨s, ?_, hP.2.1, hP.2.2, hP.1⟩
      show f_X12_twins_L44 (fu + 1) _ _ _ _ _ _ = _
      rw [f_X12_twins_L44, C'.2.2.1.2.1, ag_n (by omega) (by omega), sb, C'.2.2.1.2.2.2.2.2.1, if_pos (nI_le (by omega) (by omega))]) (fun fu k s hkk hP => by
      have C' := C.fr hP.1.m (by decide)
      have R' := R.fm hP.1.m (by decide)
      obtain ⟨M1, e1, f1⟩ := r_apart (x1 := x1) (x2 := s.1) (x3 := s.2.1) R' C' ha (b := a + 1 + k) (by omega)
      have h594 := apN_le (F := F) (ρ := ρ) C.1 a (a + 1 + k)
      have hi : twI (apN F τ ρ) a (k + 1) s0 = twS (apN F τ ρ) a (a + 1 + k) (twI (apN F τ ρ) a k s0) := rfl
      have hK := twK_I (a := a) hk k (by omega)
      right
      show ∃ s', f_X12_twins_L44 (fu + 1) _ _ _ _ _ _ = f_X12_twins_L44 fu _ _ _ _ _ _ ∧ _
      rw [f_X12_twins_L44, C'.2.2.1.2.1, ag_n (by omega) (by omega), sb, C'.2.2.1.2.2.2.2.2.1, if_neg (nI_ge (by omega) (by omega)), e1, sb]
      simp only [lt_def]
      rw [nI_1, li 10, pk_mul, nI_add]
      rw [hi]
      have p1 := hP.2.1
      have p2 := hP.2.2
      generalize twI (apN F τ ρ) a k s0 = S at hK p1 p2
      cases S with
      | none =>
        rw [if_pos (by
          rw [p1]
          show (-2 : Int32) < 0
          decide)]
        exact ⟨(_, _, M1), rfl, hP.1.tr f1, rfl, rfl⟩
      | some q =>
        obtain ⟨c, d, hc1, hc2, eq⟩ := hK q rfl
        have h5 : q.2 ≤ 594 := by rw [eq]; exact apN_le C.1 c d
        have h6 : q.1 ≤ 100 := by rw [eq]; show 10 * c + d ≤ 100; omega
        rw [if_neg (by
          rw [p1]
          show ¬ nI q.1 < 0
          exact nI_pos (by omega)), p2]
        by_cases h : apN F τ ρ a (a + 1 + k) < q.2
        · rw [if_pos (by
            show nI (apN F τ ρ a (a + 1 + k)) < nI q.2
            exact nI_lt' h (by omega))]
          refine ⟨(_, _, M1), rfl, hP.1.tr f1, ?_, ?_⟩ <;> (rw [twS_l h]; rfl)
        · rw [if_neg (by
            show ¬ nI (apN F τ ρ a (a + 1 + k)) < nI q.2
            exact nI_nlt' (nI_le (by omega) (by omega)))]
          refine ⟨(s.1, s.2.1, M1), by rw [p2]; rfl, hP.1.tr f1, ?_, ?_⟩
          · rw [twS_g h]; exact p1
          · rw [twS_g h]; exact p2) ((twR s0).1, (twR s0).2, M) ⟨FrN.rf, rfl, rfl⟩
  refine ⟨z.2.2, ?_, q3⟩
  rw [show f_X12_twins_L44 FU x1 (twR s0).1 (twR s0).2 (nI a) (nI (a + 1)) M = some z from e, ← q1, ← q2]
theorem c_alike {lw : Nat} (C : CX n t τ ρ F M) (hL : isL lw) : ∃ M', f_X2_mostAlike lw n M = some ((twC (twO (apN F τ ρ) (tW τ) (tW τ))).1, M') ∧ FrD lwS M M' := by
  have hW : tW τ ≤ 5 := C.1.2.2.2.1
  obtain ⟨z, e, q1, q3⟩ := loopQ (fun fu a (s : Int32 × Int32 × Mem) => f_X2_mostAlike_L9 lw n fu s.1 s.2.1 (nI a) s.2.2) (fun a s => FrD lwS M s.2.2 ∧ s.1 = (twC (twO (apN F τ ρ) (tW τ) a)).1 ∧ s.2.1 = (twC (twO (apN F τ ρ) (tW τ) a)).2) (fun z => z.1 = (twC (twO (apN F τ ρ) (tW τ) (tW τ))).1 ∧ FrD lwS M z.2) (tW τ) (by omega) (fun fu s hP => by
      have C' := C.fl hP.1
      refine ⟨(s.1, s.2.2), ?_, hP.2.1, hP.1⟩
      show f_X2_mostAlike_L9 lw n (fu + 1) _ _ _ _ = _
      rw [f_X2_mostAlike_L9, rT_n C'.2.2.2.1.2.1 C'.2.2.1.1, sb, C'.2.2.1.2.2.2.2.1, if_pos (nI_le (by omega) (by omega))]) (fun fu a s ha hP => by
      have C' := C.fl hP.1
      obtain ⟨M1, e1, f1⟩ := c_alikeI C' hL ha (twK_O a (by omega))
      right
      show ∃ s', f_X2_mostAlike_L9 lw n (fu + 1) _ _ _ _ = f_X2_mostAlike_L9 lw n fu _ _ _ _ ∧ _
      rw [f_X2_mostAlike_L9, rT_n C'.2.2.2.1.2.1 C'.2.2.1.1, sb, C'.2.2.1.2.2.2.2.1, if_neg (nI_ge (by omega) (by omega)), lt_def, nI_1, hP.2.1, hP.2.2, e1, sb, lt_def]
      exact ⟨(_, _, M1), rfl, hP.1.tr f1, rfl, rfl⟩) (1, 595, M) ⟨FrD.rf, rfl, rfl⟩
  refine ⟨z.2, ?_, q3⟩
  unfold f_X2_mostAlike
  rw [show f_X2_mostAlike_L9 lw n FU 1 595 0 M = some z from e, sb, ← q1]
theorem r_alike {x1 : Int32} (R : RelP t v τ ρ F M) (C : RX v τ ρ F M) : ∃ M', f_X12_twins_L24 FU x1 (-2) (-2) 0 M = some ((twR (twO (apN F τ ρ) (tW τ) (tW τ))).1, (twR (twO (apN F τ ρ) (tW τ) (tW τ))).2, M') ∧ FrN [101, 102] M M' := by
  have hW : tW τ ≤ 5 := C.1.2.2.2.1
  have hv : v ≤ 1 := R.tr.1
  obtain ⟨z, e, q1, q2, q3⟩ := loopQ (fun fu a (s : Int32 × Int32 × Mem) => f_X12_twins_L24 fu x1 s.1 s.2.1 (nI a) s.2.2) (fun a s => FrN [101, 102] M s.2.2 ∧ s.1 = (twR (twO (apN F τ ρ) (tW τ) a)).1 ∧ s.2.1 = (twR (twO (apN F τ ρ) (tW τ) a)).2) (fun z => z.1 = (twR (twO (apN F τ ρ) (tW τ) (tW τ))).1 ∧ z.2.1 = (twR (twO (apN F τ ρ) (tW τ) (tW τ))).2 ∧ FrN [101, 102] M z.2.2) (tW τ) (by omega) (fun fu s hP => by
      have C' := C.fr hP.1.m (by decide)
      refine ⟨s, ?_, hP.2.1, hP.2.2, hP.1⟩
      show f_X12_twins_L24 (fu + 1) _ _ _ _ _ = _
      rw [f_X12_twins_L24, C'.2.2.1.2.1, ag_n (by omega) (by omega), sb, C'.2.2.1.2.2.2.2.2.1, if_pos (nI_le (by omega) (by omega))]) (fun fu a s ha hP => by
      have C' := C.fr hP.1.m (by decide)
      have R' := R.fm hP.1.m (by decide)
      obtain ⟨M1, e1, f1⟩ := r_alikeI (x1 := x1) R' C' ha (twK_O a (by omega))
      right
      show ∃ s', f_X12_twins_L24 (fu + 1) _ _ _ _ _ = f_X12_twins_L24 fu _ _ _ _ _ ∧ _
      rw [f_X12_twins_L24, C'.2.2.1.2.1, ag_n (by omega) (by omega), sb, C'.2.2.1.2.2.2.2.2.1, if_neg (nI_ge (by omega) (by omega)), lt_def, nI_1, hP.2.1, hP.2.2, e1, sb, lt_def]
      exact ⟨(_, _, M1), rfl, hP.1.tr f1, rfl, rfl⟩) (-2, -2, M) ⟨FrN.rf, rfl, rfl⟩
  refine ⟨z.2.2, ?_, q3⟩
  rw [show f_X12_twins_L24 FU x1 (-2) (-2) 0 M = some z from e, ← q1, ← q2]
end TWN
theorem s_twins {M : Mem} (R : Rel M) (x1 : Int32) : OkB (f_X11_twins x1 M) (f_X12_twins x1) := by
  have R0 := R
  obtain ⟨t, v, τ, ρ, F, R⟩ := R
  have hw := R.1
  have hT : TC t τ M := R.2.2.1
  have h9 : M.2.2 0 9 = some t := R.2.2.2.2.2.2.1.1
  have hW : tW τ ≤ 5 := hw.2.2.2.1
  rcases eith x1 with ⟨h01, i1, i2⟩ | ⟨n0, n1, i1, i2⟩
  · by_cases h2 : 2 ≤ tW τ
    · obtain ⟨q, hq⟩ := Option.isSome_iff_exists.mp (twO_some (A := apN F τ ρ) h2 (tW τ) (by omega))
      obtain ⟨a, b, hab, hb, eq⟩ := twK_O (A := apN F τ ρ) (W := tW τ) (tW τ) (Nat.le_refl _) q hq
      obtain ⟨M1, c1, f1⟩ := c_alike R.cx isL_31
      rw [hq] at c1
      have e1 : (twC (some q)).1 = nI (10 * a + b) := by rw [eq]; rfl
      rw [e1] at c1
      obtain ⟨M2, c2, f2⟩ := c_apart (R.cx.fl f1) isL_31 (a := a) (b := b) (by omega) hb
      have cc : f_X11_twins x1 M = if x1 = 0 then some (nI (10 * a + b), M1) else some (nI (apN F τ ρ a b), M2) := by
        unfold f_X11_twins
        rw [i2, sb, if_neg ne10, rT_n h9 hT.1, sb, hT.2.2.2.2.1, li 2, if_pos (nI_le h2 (by omega)), c1, sb, li 10, pk_rem (by omega) (by omega) (by omega), pk_div (by omega) (by omega) (by omega), show (10 * a + b) / 10 = a by omega, show (10 * a + b) % 10 = b by omega, c2, sb]
      rw [cc]
      rcases h01 with rfl | rfl
      · have R1 := R.fl f1
        obtain ⟨M5, e5, R5, X5, f5, -, -⟩ := R1.rx
        obtain ⟨M6, e6, f6⟩ := r_alike (x1 := 0) R5 X5
        rw [hq, eq] at e6
        refine ⟨_, M1, M6, if_pos rfl, ?_, (R5.fm f6.m (by decide)).rel⟩
        unfold f_X12_twins
        rw [i1, sb, if_neg ne10, e5, sb, e6, sb, if_pos rfl]
        rfl
      · have R1 := (R.fl f1).fl f2
        obtain ⟨M5, e5, R5, X5, f5, -, -⟩ := R1.rx
        obtain ⟨M6, e6, f6⟩ := r_alike (x1 := 1) R5 X5
        rw [hq, eq] at e6
        refine ⟨_, M2, M6, if_neg ne10, ?_, (R5.fm f6.m (by decide)).rel⟩
        unfold f_X12_twins
        rw [i1, sb, if_neg ne10, e5, sb, e6, sb, if_neg ne10]
        rfl
    · obtain ⟨M5, e5, R5, X5, f5, -, -⟩ := R.rx
      obtain ⟨M6, e6, f6⟩ := r_alike (x1 := x1) R5 X5
      rw [twO_none (by omega)] at e6
      refine ⟨-2, M, M6, ?_, ?_, (R5.fm f6.m (by decide)).rel⟩
      · unfold f_X11_twins
        rw [i2, sb, if_neg ne10, rT_n h9 hT.1, sb, hT.2.2.2.2.1, li 2, if_neg (nI_ge (by omega) (by omega))]
      · unfold f_X12_twins
        rw [i1, sb, if_neg ne10, e5, sb, e6, sb]
        show (if x1 = 0 then some ((-2 : Int32), M6) else some ((-2 : Int32), M6)) = _
        rw [ite_self]
  · refine ⟨-1, M, M, ?_, ?_, R0⟩
    · unfold f_X11_twins
      rw [i2, sb, if_pos rfl]
    · unfold f_X12_twins
      rw [i1, sb, if_pos rfl]

-- 55.far: pure: ways measured by both sides
theorem shut_b {L s : Nat} (hL : L < 1024) (hs : s < 10) : ((nI L ^^^ (-1)) >>> (nI s &&& 31)) &&& (1 : Int32) = if L.testBit s then 0 else 1 := by
  have h : ∀ s, s < 10 → ∀ L, L < 1024 → ((nI L ^^^ (-1)) >>> (nI s &&& 31)) &&& (1 : Int32) = if L.testBit s then 0 else 1 := by decide +kernel
  exact h s hs L hL
def coF (free s : Nat) : Nat := if free.testBit s then 0 else 1
theorem co_1 (free s : Nat) : coF free s ≤ 1 := by
  unfold coF
  split <;> omega
def mnN (a b : Nat) : Nat := if a < b then a else b
theorem mn_l (a b : Nat) : mnN a b ≤ a := by unfold mnN; split <;> omega
theorem mn_r (a b : Nat) : mnN a b ≤ b := by unfold mnN; split <;> omega
theorem mn_g {a b c : Nat} (h1 : c ≤ a) (h2 : c ≤ b) : c ≤ mnN a b := by unfold mnN; split <;> omega
section FAR
variable {F : Nat → (Nat → Int32) → Int32} {τ : Nat → Nat → Nat} {ρ : Nat → Nat} {n t v s : Nat} {M : Mem}
/-- fewest streets from fr, by open streets, the free ones for nothing -/
def dsN (τ : Nat → Nat → Nat) (op : Nat → Bool) (free fr c : Nat) : Nat := dJ (tS τ) (τ 1) (τ 2) op (coF free) fr (tC τ - 1) c
theorem ds_le (op : Nat → Bool) (free fr c : Nat) : dsN τ op free fr c ≤ 1000 := dJ_1000 _ _
theorem wf_E (hw : wfT τ) : ∀ s, s < tS τ → τ 1 s < tC τ ∧ τ 2 s < tC τ := fun s hs => ⟨(hw.2.2.2.2.2.2 s hs).1, (hw.2.2.2.2.2.2 s hs).2.1⟩
/-- what one street does to a row: first p, then q -/
def stpN (f : Nat → Nat) (p q co c : Nat) : Nat := if c = q then mnN (mnN (f p) (f q + co) + co) (f q) else if c = p then mnN (f q + co) (f p) else f c
theorem stp_ok {op : Nat → Bool} {free fr i : Nat} {f : Nat → Nat} {p q : Nat} (hw : wfT τ) (hs : s < tS τ) (ho : op s = true) (hpq : (p = τ 1 s ∧ q = τ 2 s) ∨ (p = τ 2 s ∧ q = τ 1 s)) (hf : ∀ c, c < 7 → dsN τ op free fr c ≤ f c ∧ f c ≤ rlx (τ 1) (τ 2) op (coF free) (dJ (tS τ) (τ 1) (τ 2) op (coF free) fr i) c s) (f' : Nat → Nat) (e1 : f' p = mnN (f q + coF free s) (f p)) (e2 : f' q = mnN (f' p + coF free s) (f q)) (e3 : ∀ c, c ≠ p → c ≠ q → f' c = f c) : ∀ c, c < 7 → dsN τ op free fr c ≤ f' c ∧ f' c ≤ rlx (τ 1) (τ 2) op (coF free) (dJ (tS τ) (τ 1) (τ 2) op (coF free) fr i) c (s + 1) := by
  have hC : tC τ ≤ 7 := hw.1
  obtain ⟨q1, q2, q3, -, -⟩ := hw.2.2.2.2.2.2 s hs
  have hE := wf_E hw
  have ap : adj (τ 1) (τ 2) op (tS τ) p q s ∧ adj (τ 1) (τ 2) op (tS τ) q p s := by
    rcases hpq with ⟨a, b⟩ | ⟨a, b⟩ <;> subst a <;> subst b
    · exact ⟨⟨hs, ho, Or.inl ⟨rfl, rfl⟩⟩, ⟨hs, ho, Or.inr ⟨rfl, rfl⟩⟩⟩
    · exact ⟨⟨hs, ho, Or.inr ⟨rfl, rfl⟩⟩, ⟨hs, ho, Or.inl ⟨rfl, rfl⟩⟩⟩
  have hp7 : p < 7 ∧ q < 7 ∧ p ≠ q := by
    rcases hpq with ⟨a, b⟩ | ⟨a, b⟩ <;> subst a <;> subst b <;> omega
  have lp : dsN τ op free fr p ≤ dsN τ op free fr q + coF free s := dJ_ok hE (by omega) ap.1
  have lq : dsN τ op free fr q ≤ dsN τ op free fr p + coF free s := dJ_ok hE (by omega) ap.2
  have fp := hf p hp7.1
  have fq := hf q hp7.2.1
  have Lp : dsN τ op free fr p ≤ f' p := by rw [e1]; exact mn_g (by omega) fp.1
  have Lq : dsN τ op free fr q ≤ f' q := by rw [e2]; exact mn_g (by omega) fq.1
  have g := rl_self (A := τ 1) (B := τ 2) (op := op) (co := coF free) (d := dJ (tS τ) (τ 1) (τ 2) op (coF free) fr i) (c := p) s
  have g' := rl_self (A := τ 1) (B := τ 2) (op := op) (co := coF free) (d := dJ (tS τ) (τ 1) (τ 2) op (coF free) fr i) (c := q) s
  have Up1 : f' p ≤ f p := by rw [e1]; exact mn_r _ _
  have Up2 : f' p ≤ f q + coF free s := by rw [e1]; exact mn_l _ _
  have Uq1 : f' q ≤ f q := by rw [e2]; exact mn_r _ _
  have Uq2 : f' q ≤ f' p + coF free s := by rw [e2]; exact mn_l _ _
  intro c hc
  have low : dsN τ op free fr c ≤ f' c := by
    by_cases c1 : c = p
    · rw [c1]; exact Lp
    · by_cases c2 : c = q
      · rw [c2]; exact Lq
      · rw [e3 c c1 c2]; exact (hf c hc).1
  refine ⟨low, ?_⟩
  rw [rl_s]
  have fc := (hf c hc).2
  have le_c : f' c ≤ f c := by
    by_cases c1 : c = p
    · rw [c1]; exact Up1
    · by_cases c2 : c = q
      · rw [c2]; exact Uq1
      · rw [e3 c c1 c2]; exact Nat.le_refl _
  split
  · next h =>
    obtain ⟨-, ha, -⟩ := h
    rcases hpq with ⟨a, b⟩ | ⟨a, b⟩
    · rw [← ha, ← a, ← b]; omega
    · rw [← ha, ← a, ← b]; omega
  · split
    · next h =>
      obtain ⟨-, ha, -⟩ := h
      rcases hpq with ⟨a, b⟩ | ⟨a, b⟩
      · rw [← ha, ← a, ← b]; omega
      · rw [← ha, ← a, ← b]; omega
    · omega
theorem c_fill {a k : Nat} {x : Int32} (hk : k < 1000) : f_J7_fill_53178 a k x M = some (wrM M a 0 (fun _ => x) k) := by
  have h := loop0 (fun fu y => f_J7_fill_53178_L5 a k fu x (nI y) (nI k) (wrM M a 0 (fun _ => x) y)) (some (wrM M a 0 (fun _ => x) k)) k (by omega) (fun fu => ?_) (fun fu y hy => ?_)
  · rw [wr_0] at h
    unfold f_J7_fill_53178
    rw [lt_def, show f_J7_fill_53178_L5 a k FU x 0 (Int32.ofNat k) M = _ from h, sb]
  · show f_J7_fill_53178_L5 a k (fu + 1) _ _ _ _ = _
    rw [f_J7_fill_53178_L5, if_pos (nI_le (Nat.le_refl _) (by omega))]
  · show f_J7_fill_53178_L5 a k (fu + 1) _ _ _ _ = f_J7_fill_53178_L5 a k fu _ _ _ _
    have e := wr_s (M := M) (a := a) (l := 0) (n := y) (B := fun _ => x)
    rw [Nat.zero_add] at e
    rw [f_J7_fill_53178_L5, if_neg (nI_ge hy (by omega)), pg_n (by omega) (by omega), sb, lt_def, nI_1, ← e]
theorem mn_e {a b : Nat} (ha : a < 2 ^ 31) (hb : b < 2 ^ 31) : (if nI a < nI b then nI a else nI b) = nI (mnN a b) := c_min ha hb
theorem TC.f46 (hT : TC t τ M) {M' : Mem} (f : FrD [46] M M') : TC t τ M' := hT.of (fun a ha => f.1 a (by simp; omega))
theorem c_meas (hw : wfT τ) (hT : TC t τ M) {fr free : Nat} (hfr : fr < tC τ) (hfree : free < 2 ^ 31) : ∃ M', f_X10_measure t (nI fr) (nI free) M = some M' ∧ FrD [46] M M' ∧ ∀ c, c < 7 → M'.1 46 c = nI (dsN τ (fun _ => true) free fr c) := by
  have hS : tS τ ≤ 10 := hw.2.1
  have hC : tC τ ≤ 7 := hw.1
  have hE := wf_E hw
  let M3 : Mem := sI (wrM M 46 0 (fun _ => 1000) 7) 46 fr 0
  have f3 : FrD [46] M M3 := ⟨fun a ha => (sI_cell (by simpa using ha)).trans (wr_cell (by simpa using ha)), rfl⟩
  have r3 : ∀ c, c < 7 → M3.1 46 c = nI (dJ (tS τ) (τ 1) (τ 2) (fun _ => true) (coF free) fr 0 c) := fun c hc => by
    show M3.1 46 c = nI (if c = fr then 0 else 1000)
    by_cases e : c = fr
    · rw [if_pos e, e]; exact sI_same
    · rw [if_neg e]
      refine (sI_ix e).trans ?_
      have := wr_at (M := M) (a := 46) (l := 0) (B := fun _ => (1000 : Int32)) hc
      rw [Nat.zero_add] at this
      exact this
  have inner : ∀ (i : Nat) (Q : Mem) (f : Nat → Nat) (x4 : Int32), FrD [46] M Q → (∀ c, c < 7 → Q.1 46 c = nI (f c)) → (∀ c, c < 7 → dsN τ (fun _ => true) free fr c ≤ f c ∧ f c ≤ dJ (tS τ) (τ 1) (τ 2) (fun _ => true) (coF free) fr i c) → ∃ Q', f_X10_measure_L32 t FU (nI free) x4 0 Q = some Q' ∧ FrD [46] M Q' ∧ ∃ f' : Nat → Nat, (∀ c, c < 7 → Q'.1 46 c = nI (f' c)) ∧ ∀ c, c < 7 → dsN τ (fun _ => true) free fr c ≤ f' c ∧ f' c ≤ dJ (tS τ) (τ 1) (τ 2) (fun _ => true) (coF free) fr (i + 1) c := by
    intro i Q f x4 fQ rQ bQ
    exact loopQ (fun fu y (s : Mem) => f_X10_measure_L32 t fu (nI free) x4 (nI y) s) (fun y s => FrD [46] M s ∧ ∃ f : Nat → Nat, (∀ c, c < 7 → s.1 46 c = nI (f c)) ∧ ∀ c, c < 7 → dsN τ (fun _ => true) free fr c ≤ f c ∧ f c ≤ rlx (τ 1) (τ 2) (fun _ => true) (coF free) (dJ (tS τ) (τ 1) (τ 2) (fun _ => true) (coF free) fr i) c y) (fun s => FrD [46] M s ∧ ∃ f' : Nat → Nat, (∀ c, c < 7 → s.1 46 c = nI (f' c)) ∧ ∀ c, c < 7 → dsN τ (fun _ => true) free fr c ≤ f' c ∧ f' c ≤ dJ (tS τ) (τ 1) (τ 2) (fun _ => true) (coF free) fr (i + 1) c) (tS τ) (by omega) (fun fu s hP => by
        have T' := hT.f46 hP.1
        refine ⟨s, ?_, hP⟩
        show f_X10_measure_L32 t (fu + 1) _ _ _ _ = _
        rw [f_X10_measure_L32, T'.2.2.1, if_pos (nI_le (Nat.le_refl _) (by omega))]) (fun fu y s hy hP => by
        have T' := hT.f46 hP.1
        obtain ⟨f', g, rg, bg⟩ := hP
        obtain ⟨h1, h2, -⟩ := T'.2.2.2.2.2.2.2.1 y hy
        obtain ⟨q1, q2, q3, -, -⟩ := hw.2.2.2.2.2.2 y hy
        have c1 := co_1 free y
        have b1 : g (τ 1 y) ≤ 1000 := Nat.le_trans (bg _ (by omega)).2 (Nat.le_trans (rl_self y) (dJ_1000 _ _))
        have b2 : g (τ 2 y) ≤ 1000 := Nat.le_trans (bg _ (by omega)).2 (Nat.le_trans (rl_self y) (dJ_1000 _ _))
        have ec : (1 : Int32) - ((nI free >>> (nI y &&& 31)) &&& (1 : Int32)) = nI (coF free y) := by
          rw [bit_n hfree (by omega)]
          unfold coF
          cases free.testBit y <;> rfl
        let va := mnN (g (τ 2 y) + coF free y) (g (τ 1 y))
        let vb := mnN (va + coF free y) (g (τ 2 y))
        have va1 : va ≤ g (τ 1 y) := mn_r _ _
        have s1 : (sI s 46 (τ 1 y) (nI va)).1 46 (τ 2 y) = nI (g (τ 2 y)) := (sI_ix (by omega)).trans (rg _ (by omega))
        have s2 : (sI s 46 (τ 1 y) (nI va)).1 46 (τ 1 y) = nI va := sI_same
        right
        refine ⟨sI (sI s 46 (τ 1 y) (nI va)) 46 (τ 2 y) (nI vb), ?_, (f'.tr (FrD.set (by decide))).tr (FrD.set (by decide)), fun c => if c = τ 2 y then vb else if c = τ 1 y then va else g c, fun c hc => ?_, ?_⟩
        · show f_X10_measure_L32 t (fu + 1) _ _ _ _ = f_X10_measure_L32 t fu _ _ _ _
          rw [f_X10_measure_L32, T'.2.2.1, if_neg (nI_ge hy (by omega)), lt_def, ec, ag_n (by omega) (by omega), sb, h1, ag_n (by omega) (by omega), sb, h2, ag_n (by omega) (by omega), sb, rg _ (by omega), ag_n (by omega) (by omega), sb, rg _ (by omega), nI_add, mn_e (by omega) (by omega), lt_def, pg_n (by omega) (by omega), sb, ag_n (by omega) (by omega), sb]
          show (ag (sI s 46 (τ 1 y) (nI va)) 46 7 (nI (τ 1 y))).bind _ = _
          rw [ag_n (by omega) (by omega), sb]
          show lt (if (sI s 46 (τ 1 y) (nI va)).1 46 (τ 1 y) + nI (coF free y) < (sI s 46 (τ 1 y) (nI va)).1 46 (τ 2 y) then (sI s 46 (τ 1 y) (nI va)).1 46 (τ 1 y) + nI (coF free y) else (sI s 46 (τ 1 y) (nI va)).1 46 (τ 2 y)) _ = _
          rw [s1, s2, nI_add, mn_e (by omega) (by omega), lt_def, pg_n (by omega) (by omega), sb, lt_def, nI_1]
        · show _ = nI (if c = τ 2 y then vb else if c = τ 1 y then va else g c)
          by_cases e2 : c = τ 2 y
          · rw [if_pos e2, e2, sI_same]
          · rw [if_neg e2, sI_ix e2]
            by_cases e1 : c = τ 1 y
            · rw [if_pos e1, e1, sI_same]
            · rw [if_neg e1, sI_ix e1]; exact rg c hc
        · exact stp_ok (p := τ 1 y) (q := τ 2 y) hw hy rfl (Or.inl ⟨rfl, rfl⟩) bg _ ((if_neg q3).trans (if_pos rfl)) ((if_pos rfl).trans (by rw [if_neg q3, if_pos rfl])) (fun c a b => (if_neg b).trans (if_neg a))) Q ⟨fQ, f, rQ, bQ⟩
  obtain ⟨M4, e4, f4, g, rg, bg⟩ := loopX (fun fu y (s : Mem) => f_X10_measure_L20 t fu (nI free) (nI y) s) (fun y s => 0 < y ∧ FrD [46] M s ∧ ∃ f : Nat → Nat, (∀ c, c < 7 → s.1 46 c = nI (f c)) ∧ ∀ c, c < 7 → dsN τ (fun _ => true) free fr c ≤ f c ∧ f c ≤ dJ (tS τ) (τ 1) (τ 2) (fun _ => true) (coF free) fr (y - 1) c) (fun s => FrD [46] M s ∧ ∃ f : Nat → Nat, (∀ c, c < 7 → s.1 46 c = nI (f c)) ∧ ∀ c, c < 7 → dsN τ (fun _ => true) free fr c ≤ f c ∧ f c ≤ dJ (tS τ) (τ 1) (τ 2) (fun _ => true) (coF free) fr (tC τ - 1) c) (tC τ) (fun fu s hP => by
      have T' := hT.f46 hP.2.1
      refine ⟨s, ?_, hP.2⟩
      show f_X10_measure_L20 t (fu + 1) _ _ _ = _
      rw [f_X10_measure_L20, T'.2.1, if_pos (nI_le (Nat.le_refl _) (by omega))]) (fun fu y s hy hP => by
      obtain ⟨h0, fs, g, rg, bg⟩ := hP
      have T' := hT.f46 fs
      obtain ⟨Q', eQ, fQ, gQ⟩ := inner (y - 1) s g (nI y) fs rg bg
      right
      refine ⟨Q', ?_, by omega, fQ, by rw [show y + 1 - 1 = y - 1 + 1 by omega]; exact gQ⟩
      show f_X10_measure_L20 t (fu + 1) _ _ _ = f_X10_measure_L20 t fu _ _ _
      rw [f_X10_measure_L20, T'.2.1, if_neg (nI_ge hy (by omega)), eQ, sb, lt_def, nI_1]) (tC τ - 1) 1 FU M3 (by omega) (by show tC τ - 1 < 1000000; omega) ⟨by omega, f3, _, r3, fun c hc => ⟨dJ_anti (Nat.zero_le _), Nat.le_refl _⟩⟩
  refine ⟨M4, ?_, f4, fun c hc => ?_⟩
  · unfold f_X10_measure
    rw [c_fill (by omega), sb, show (0 : Int32) = 0 from rfl, pg_n (by omega) (by omega), sb, show f_X10_measure_L20 t FU (nI free) 1 _ = some M4 from e4, sb]
  · rw [rg c hc]
    have := bg c hc
    exact congrArg nI (Nat.le_antisymm this.2 this.1)
theorem r_far (hw : wfT τ) (hV : TR v τ M) {fr free : Nat} {x3 : Int32} {op : Nat → Bool} (hfr : fr < 7) (hfree : free < 2 ^ 31) (hsh : ∀ s, s < 10 → (x3 >>> (nI s &&& 31)) &&& (1 : Int32) = if op s then 0 else 1) : ∃ M', f_X12_fillsFar (nI fr) (nI free) x3 M = some M' ∧ FrM [110] M M' ∧ ∀ c, c < 7 → M'.1 110 c = nI (dsN τ op free fr c) := by
  have hS : tS τ ≤ 10 := hw.2.1
  have hC : tC τ ≤ 7 := hw.1
  have hv : v ≤ 1 := hV.1
  have hE := wf_E hw
  let B0 : Nat → Int32 := fun c => if c = fr then 0 else 1000
  let M3 : Mem := wrM M 110 0 B0 7
  have k1 : f_X12_fillsFar_L3 FU (nI fr) (nI free) x3 0 M = some M3 := by
    have h := loop0 (fun fu y => f_X12_fillsFar_L3 fu (nI fr) (nI free) x3 (nI y) (wrM M 110 0 B0 y)) (some M3) 7 (by omega) (fun fu => ?_) (fun fu y hy => ?_)
    · rw [wr_0] at h
      exact h
    · show f_X12_fillsFar_L3 (fu + 1) _ _ _ _ _ = _
      rw [f_X12_fillsFar_L3, li 7, if_pos (nI_le (Nat.le_refl _) (by omega))]
    · show f_X12_fillsFar_L3 (fu + 1) _ _ _ _ _ = f_X12_fillsFar_L3 fu _ _ _ _ _
      have e := wr_s (M := M) (a := 110) (l := 0) (n := y) (B := B0)
      rw [Nat.zero_add] at e
      have eb : (if nI y = nI fr then (0 : Int32) else 1000) = B0 y := by
        show _ = if y = fr then (0 : Int32) else 1000
        by_cases h : y = fr
        · rw [if_pos h, if_pos (by rw [h])]
        · rw [if_neg h, if_neg (fun z => h (nI_inj (by omega) (by omega) z))]
      rw [f_X12_fillsFar_L3, li 7, if_neg (nI_ge hy (by omega)), eb, lt_def, pg_n (by omega) (by omega), sb, lt_def, nI_1, ← e]
  have f3 : FrM [110] M M3 := FrM.wr (by decide) (by decide)
  have r3 : ∀ c, c < 7 → M3.1 110 c = nI (dJ (tS τ) (τ 1) (τ 2) op (coF free) fr 0 c) := fun c hc => by
    show M3.1 110 c = nI (if c = fr then 0 else 1000)
    have := wr_at (M := M) (a := 110) (l := 0) (B := B0) hc
    rw [Nat.zero_add] at this
    rw [show M3.1 110 c = B0 c from this]
    show (if c = fr then (0 : Int32) else 1000) = _
    split <;> rfl
  have inner : ∀ (i : Nat) (Q : Mem) (f : Nat → Nat) (x4 : Int32), FrM [110] M Q → (∀ c, c < 7 → Q.1 110 c = nI (f c)) → (∀ c, c < 7 → dsN τ op free fr c ≤ f c ∧ f c ≤ dJ (tS τ) (τ 1) (τ 2) op (coF free) fr i c) → ∃ Q', f_X12_fillsFar_L49 FU (nI free) x3 x4 0 Q = some Q' ∧ FrM [110] M Q' ∧ ∃ f' : Nat → Nat, (∀ c, c < 7 → Q'.1 110 c = nI (f' c)) ∧ ∀ c, c < 7 → dsN τ op free fr c ≤ f' c ∧ f' c ≤ dJ (tS τ) (τ 1) (τ 2) op (coF free) fr (i + 1) c := by
    intro i Q f x4 fQ rQ bQ
    exact loopQ (fun fu y (s : Mem) => f_X12_fillsFar_L49 fu (nI free) x3 x4 (nI y) s) (fun y s => FrM [110] M s ∧ ∃ f : Nat → Nat, (∀ c, c < 7 → s.1 110 c = nI (f c)) ∧ ∀ c, c < 7 → dsN τ op free fr c ≤ f c ∧ f c ≤ rlx (τ 1) (τ 2) op (coF free) (dJ (tS τ) (τ 1) (τ 2) op (coF free) fr i) c y) (fun s => FrM [110] M s ∧ ∃ f' : Nat → Nat, (∀ c, c < 7 → s.1 110 c = nI (f' c)) ∧ ∀ c, c < 7 → dsN τ op free fr c ≤ f' c ∧ f' c ≤ dJ (tS τ) (τ 1) (τ 2) op (coF free) fr (i + 1) c) (tS τ) (by omega) (fun fu s hP => by
        have V' := hV.fr hP.1 (by decide)
        refine ⟨s, ?_, hP⟩
        show f_X12_fillsFar_L49 (fu + 1) _ _ _ _ _ = _
        rw [f_X12_fillsFar_L49, V'.2.1, ag_n (by omega) (by omega), sb, V'.2.2.2.1, if_pos (nI_le (Nat.le_refl _) (by omega))]) (fun fu y s hy hP => by
        have V' := hV.fr hP.1 (by decide)
        obtain ⟨f', g, rg, bg⟩ := hP
        obtain ⟨h1, h2, -⟩ := V'.2.2.2.2.2.2.2.2.1 y hy
        obtain ⟨q1, q2, q3, -, -⟩ := hw.2.2.2.2.2.2 y hy
        right
        show ∃ s', f_X12_fillsFar_L49 (fu + 1) _ _ _ _ _ = f_X12_fillsFar_L49 fu _ _ _ _ _ ∧ _
        rw [f_X12_fillsFar_L49, V'.2.1, ag_n (by omega) (by omega), sb, V'.2.2.2.1, if_neg (nI_ge hy (by omega)), hsh y (by omega)]
        by_cases ho : op y = true
        case neg =>
          rw [if_neg ho, if_pos rfl, lt_def, nI_1]
          refine ⟨s, rfl, f', g, rg, fun c hc => ⟨(bg c hc).1, ?_⟩⟩
          rw [rl_s, if_neg (fun z => ho z.1), if_neg (fun z => ho z.1)]
          exact (bg c hc).2
        have c1 := co_1 free y
        have b1 : g (τ 1 y) ≤ 1000 := Nat.le_trans (bg _ (by omega)).2 (Nat.le_trans (rl_self y) (dJ_1000 _ _))
        have b2 : g (τ 2 y) ≤ 1000 := Nat.le_trans (bg _ (by omega)).2 (Nat.le_trans (rl_self y) (dJ_1000 _ _))
        have ec : (if (nI free >>> (nI y &&& 31)) &&& (1 : Int32) = 1 then (0 : Int32) else 1) = nI (coF free y) := by
          rw [bit_n hfree (by omega)]
          unfold coF
          cases free.testBit y <;> rfl
        let vb := mnN (g (τ 1 y) + coF free y) (g (τ 2 y))
        let va := mnN (vb + coF free y) (g (τ 1 y))
        have vb1 : vb ≤ g (τ 2 y) := mn_r _ _
        have w1 : (if nI (g (τ 2 y)) ≤ nI (g (τ 1 y) + coF free y) then some s else (some (nI (g (τ 1 y)))).bind fun v21 => (pg s 110 7 (nI (τ 2 y)) (v21 + nI (coF free y))).bind fun M22 => some M22) = some (sI s 110 (τ 2 y) (nI vb)) := by
          by_cases h : g (τ 1 y) + coF free y < g (τ 2 y)
          · rw [if_neg (nI_ge h (by omega)), sb, nI_add, pg_n (by omega) (by omega), sb, show vb = g (τ 1 y) + coF free y from if_pos h]
          · rw [if_pos (nI_le (by omega) (by omega)), sI_id]
            rw [show vb = g (τ 2 y) from if_neg h]
            exact rg _ (by omega)
        have s1 : (sI s 110 (τ 2 y) (nI vb)).1 110 (τ 1 y) = nI (g (τ 1 y)) := (sI_ix (by omega)).trans (rg _ (by omega))
        have s2 : (sI s 110 (τ 2 y) (nI vb)).1 110 (τ 2 y) = nI vb := sI_same
        refine ⟨sI (sI s 110 (τ 2 y) (nI vb)) 110 (τ 1 y) (nI va), ?_, (f'.tr ((FrM.set (S := [110]) (by decide) (by decide)).tr (FrM.set (S := [110]) (by decide) (by decide)))).sub (by decide), fun c => if c = τ 1 y then va else if c = τ 2 y then vb else g c, fun c hc => ?_, ?_⟩
        · rw [if_pos ho, if_neg (show ¬ (0 : Int32) = 1 by decide), ec, lt_def, li 10, pk_mul, nI_add, ag_n (by omega) (by omega), sb, h1, ag_n (by omega) (by omega), sb, h2, ag_n (by omega) (by omega), sb, rg _ (by omega), ag_n (by omega) (by omega), sb, rg _ (by omega), nI_add, w1, sb, ag_n (by omega) (by omega), sb, ag_n (by omega) (by omega), sb, s1, s2, nI_add]
          by_cases h : vb + coF free y < g (τ 1 y)
          · rw [if_neg (nI_ge h (by omega)), sb, nI_add, pg_n (by omega) (by omega), sb, lt_def, nI_1, show va = vb + coF free y from if_pos h]
          · rw [if_pos (nI_le (by omega) (by omega)), lt_def, nI_1]
            have : sI (sI s 110 (τ 2 y) (nI vb)) 110 (τ 1 y) (nI va) = sI s 110 (τ 2 y) (nI vb) := by
              refine sI_id ?_
              rw [show va = g (τ 1 y) from if_neg h]
              exact s1
            rw [this]
        · show _ = nI (if c = τ 1 y then va else if c = τ 2 y then vb else g c)
          by_cases e2 : c = τ 1 y
          · rw [if_pos e2, e2, sI_same]
          · rw [if_neg e2, sI_ix e2]
            by_cases e1 : c = τ 2 y
            · rw [if_pos e1, e1, sI_same]
            · rw [if_neg e1, sI_ix e1]; exact rg c hc
        · exact stp_ok (p := τ 2 y) (q := τ 1 y) hw hy ho (Or.inr ⟨rfl, rfl⟩) bg _ ((if_neg (Ne.symm q3)).trans (if_pos rfl)) ((if_pos rfl).trans (by rw [if_neg (Ne.symm q3), if_pos rfl])) (fun c a b => (if_neg b).trans (if_neg a))) Q ⟨fQ, f, rQ, bQ⟩
  obtain ⟨M4, e4, f4, g, rg, bg⟩ := loopQ (fun fu y (s : Mem) => f_X12_fillsFar_L39 fu (nI free) x3 (nI y) s) (fun y s => FrM [110] M s ∧ ∃ f : Nat → Nat, (∀ c, c < 7 → s.1 110 c = nI (f c)) ∧ ∀ c, c < 7 → dsN τ op free fr c ≤ f c ∧ f c ≤ dJ (tS τ) (τ 1) (τ 2) op (coF free) fr y c) (fun s => FrM [110] M s ∧ ∃ f : Nat → Nat, (∀ c, c < 7 → s.1 110 c = nI (f c)) ∧ ∀ c, c < 7 → dsN τ op free fr c ≤ f c ∧ f c ≤ dJ (tS τ) (τ 1) (τ 2) op (coF free) fr 7 c) 7 (by omega) (fun fu s hP => by
      refine ⟨s, ?_, hP⟩
      show f_X12_fillsFar_L39 (fu + 1) _ _ _ _ = _
      rw [f_X12_fillsFar_L39, li 7, if_pos (nI_le (Nat.le_refl _) (by omega))]) (fun fu y s hy hP => by
      obtain ⟨fs, g, rg, bg⟩ := hP
      obtain ⟨Q', eQ, fQ, gQ⟩ := inner y s g (nI y) fs rg bg
      right
      refine ⟨Q', ?_, fQ, gQ⟩
      show f_X12_fillsFar_L39 (fu + 1) _ _ _ _ = f_X12_fillsFar_L39 fu _ _ _ _
      rw [f_X12_fillsFar_L39, li 7, if_neg (nI_ge hy (by omega)), eQ, sb, lt_def, nI_1]) M3 ⟨f3, _, r3, fun c hc => ⟨dJ_anti (Nat.zero_le _), Nat.le_refl _⟩⟩
  refine ⟨M4, ?_, f4, fun c hc => ?_⟩
  · unfold f_X12_fillsFar
    rw [k1, sb, show f_X12_fillsFar_L39 FU (nI free) x3 0 M3 = some M4 from e4, sb]
  · rw [rg c hc]
    have h1 := bg c hc
    rw [dJ_rest hE c 7 (by omega)] at h1
    exact congrArg nI (Nat.le_antisymm h1.2 h1.1)
end FAR

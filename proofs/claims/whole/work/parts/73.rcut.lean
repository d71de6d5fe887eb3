-- 73.rcut: pure: the reference cuts up its text
section RCU
variable {b : Nat → Nat} {len : Nat} {kw : Nat → Int64} {M M' : Mem}
/-- what the cutting may write -/
def FrU (M M' : Mem) : Prop := (∀ a, a ≠ 70 → a ≠ 71 → a ≠ 72 → a ≠ 67 → M'.1 a = M.1 a) ∧ (∀ i, i ≠ 10 → M'.1 67 i = M.1 67 i) ∧ (∀ a, a ≠ 73 → M'.2.1 a = M.2.1 a) ∧ M'.2.2 = M.2.2
theorem FrU.rf : FrU M M := ⟨fun _ _ _ _ _ => rfl, fun _ _ => rfl, fun _ _ => rfl, rfl⟩
theorem FrU.tr {M1 : Mem} (h : FrU M M1) (h' : FrU M1 M') : FrU M M' := ⟨fun a p q r s => (h'.1 a p q r s).trans (h.1 a p q r s), fun i p => (h'.2.1 i p).trans (h.2.1 i p), fun a p => (h'.2.2.1 a p).trans (h.2.2.1 a p), h'.2.2.2.trans h.2.2.2⟩
theorem BM.fr (B : BM b len M) (f : FrU M M') : BM b len M' := by
  unfold BM at B ⊢
  rw [f.2.1 4 (by decide), f.1 69 (by decide) (by decide) (by decide) (by decide)]
  exact B
theorem r_lrun (B : BM b len M) {i : Nat} (hi : i ≤ len) : ∃ x : Int64, f_X12_cutsUp_L85 FU (nI i) 0 0 M = some (nI (lrN b len i - i), x) ∧ (lrN b len i - i ≤ 8 → x = lN (nmN b i (lrN b len i - i))) := by
  have hl := B.1
  obtain ⟨k1, k2, k3⟩ := lr_ok (b := b) hl hi
  obtain ⟨a, e, q1, q2⟩ := loopQ (fun fu n (s : Int64) => f_X12_cutsUp_L85 fu (nI i) (nI n) s M) (fun n s => i + n ≤ len ∧ (n ≤ 8 → s = lN (nmN b i n)) ∧ ∀ j, i ≤ j → j < i + n → isLt b len j = true) (fun a => a.1 = nI (lrN b len i - i) ∧ (lrN b len i - i ≤ 8 → a.2 = lN (nmN b i (lrN b len i - i)))) (len - i) (by omega) (fun fu s hP => by
      obtain ⟨p1, p2, p3⟩ := hP
      rw [show i + (len - i) = len by omega] at p3
      have e : len = lrN b len i := sk_u (p := isLt b len) hi k3 p3 (lt_len len (Nat.le_refl _)).1 (fun j a b => sk_all _ j a b) k1
      refine ⟨(nI (len - i), s), ?_, by rw [← e], by rw [← e]; exact p2⟩
      show f_X12_cutsUp_L85 (fu + 1) _ _ _ _ = _
      rw [f_X12_cutsUp_L85, nI_add, r_byte B (by omega), sb, (c_lett (fun h => absurd h (by omega)) (Or.inr rfl)).2, sb, (lt_len (i + (len - i)) (by omega)).1, if_neg Bool.false_ne_true, if_pos rfl]) (fun fu n s hn hP => by
      obtain ⟨p1, p2, p3⟩ := hP
      have hby := (B.2.2 (i + n) (by omega)).2
      show (∃ a, f_X12_cutsUp_L85 (fu + 1) _ _ _ _ = some a ∧ _) ∨ ∃ s', f_X12_cutsUp_L85 (fu + 1) _ _ _ _ = f_X12_cutsUp_L85 fu _ _ _ _ ∧ _
      rw [f_X12_cutsUp_L85, nI_add, r_byte B (by omega), sb, sb, (c_lett (fun _ => hby) (Or.inr rfl)).2, sb]
      cases hb : isLt b len (i + n)
      · left
        have e : i + n = lrN b len i := sk_u (p := isLt b len) (by omega) k3 p3 hb (fun j a b => sk_all _ j a b) k1
        refine ⟨(nI n, s), by rw [if_neg Bool.false_ne_true, if_pos rfl], ?_, ?_⟩
        · rw [← e, show i + n - i = n by omega]
        · rw [← e, show i + n - i = n by omega]; exact p2
      · right
        have hc : 97 ≤ b (i + n) ∧ b (i + n) ≤ 122 := by
          unfold isLt at hb
          simp at hb
          exact hb.2
        have all : ∀ j, i ≤ j → j < i + (n + 1) → isLt b len j = true := fun j j1 j2 => by
          by_cases e : j = i + n
          · rw [e]; exact hb
          · exact p3 j j1 (by omega)
        rw [if_pos rfl, if_neg ne10, li 8]
        by_cases h8 : 8 ≤ n
        · rw [if_pos (nI_le h8 (by omega)), lt_def, nI_1]
          exact ⟨s, rfl, by omega, fun z => absurd z (by omega), all⟩
        · have es : f_X12_appends s (if i + n < len then nI (b (i + n)) else 0) = some (lN (nmN b i (n + 1))) := by
            rw [if_pos (by omega)]
            unfold f_X12_appends
            have e27 : (27 : Int64) = lN 27 := rfl
            rw [if_neg (nI_ne0 (by omega) (by omega)), p2 (by omega), li 97, pk_sub (by omega), nI_1, nI_l (by omega), e27, lN_mul, lN_add]
            show some (lN _) = some (lN (27 * nmN b i n + (b (i + n) - 96)))
            congr 2
            omega
          rw [if_neg (nI_ge (by omega) (by omega)), es, sb, lt_def, nI_1]
          exact ⟨_, rfl, by omega, fun _ => rfl, all⟩) 0 ⟨hi, fun _ => rfl, fun j a b => absurd b (by omega)⟩
  exact ⟨a.2, by rw [show f_X12_cutsUp_L85 FU (nI i) 0 0 M = some a from e, ← q1], q2⟩
theorem r_drun (B : BM b len M) {i : Nat} (hi : i ≤ len) : ∃ x : Int32, f_X12_cutsUp_L208 FU (nI i) 0 0 M = some (nI (drN b len i - i), x) ∧ (drN b len i - i ≤ 4 → x = nI (vlN b i (drN b len i - i)) ∧ vlN b i (drN b len i - i) ≤ 9999) := by
  have hl := B.1
  obtain ⟨k1, k2, k3⟩ := dr_ok (b := b) hl hi
  have vb : ∀ n, n ≤ 4 → (∀ j, i ≤ j → j < i + n → isDg b len j = true) → vlN b i n < 10 ^ n := by
    intro n
    induction n with
    | zero => intro _ _; show (0 : Nat) < 1; omega
    | succ n ih =>
      intro hn hd
      have h1 := ih (by omega) (fun j a b => hd j a (by omega))
      have h2 := hd (i + n) (by omega) (by omega)
      unfold isDg at h2
      simp at h2
      show 10 * vlN b i n + b (i + n) - 48 < 10 ^ (n + 1)
      rw [Nat.pow_succ]
      omega
  obtain ⟨a, e, q1, q2⟩ := loopQ (fun fu n (s : Int32) => f_X12_cutsUp_L208 fu (nI i) (nI n) s M) (fun n s => i + n ≤ len ∧ (n ≤ 4 → s = nI (vlN b i n)) ∧ ∀ j, i ≤ j → j < i + n → isDg b len j = true) (fun a => a.1 = nI (drN b len i - i) ∧ (drN b len i - i ≤ 4 → a.2 = nI (vlN b i (drN b len i - i)))) (len - i) (by omega) (fun fu s hP => by
      obtain ⟨p1, p2, p3⟩ := hP
      rw [show i + (len - i) = len by omega] at p3
      have e : len = drN b len i := sk_u (p := isDg b len) hi k3 p3 (lt_len len (Nat.le_refl _)).2.1 (fun j a b => sk_all _ j a b) k1
      refine ⟨(nI (len - i), s), ?_, by rw [← e], by rw [← e]; exact p2⟩
      show f_X12_cutsUp_L208 (fu + 1) _ _ _ _ = _
      rw [f_X12_cutsUp_L208, nI_add, r_byte B (by omega), sb, (c_digi (fun h => absurd h (by omega)) (Or.inr rfl)).2, sb, (lt_len (i + (len - i)) (by omega)).2.1, if_neg Bool.false_ne_true, if_pos rfl]) (fun fu n s hn hP => by
      obtain ⟨p1, p2, p3⟩ := hP
      have hby := (B.2.2 (i + n) (by omega)).2
      show (∃ a, f_X12_cutsUp_L208 (fu + 1) _ _ _ _ = some a ∧ _) ∨ ∃ s', f_X12_cutsUp_L208 (fu + 1) _ _ _ _ = f_X12_cutsUp_L208 fu _ _ _ _ ∧ _
      rw [f_X12_cutsUp_L208, nI_add, r_byte B (by omega), sb, sb, (c_digi (fun _ => hby) (Or.inr rfl)).2, sb]
      cases hb : isDg b len (i + n)
      · left
        have e : i + n = drN b len i := sk_u (p := isDg b len) (by omega) k3 p3 hb (fun j a b => sk_all _ j a b) k1
        refine ⟨(nI n, s), by rw [if_neg Bool.false_ne_true, if_pos rfl], ?_, ?_⟩
        · rw [← e, show i + n - i = n by omega]
        · rw [← e, show i + n - i = n by omega]; exact p2
      · right
        have hc : 48 ≤ b (i + n) ∧ b (i + n) ≤ 57 := by
          unfold isDg at hb
          simp at hb
          exact hb.2
        have all : ∀ j, i ≤ j → j < i + (n + 1) → isDg b len j = true := fun j j1 j2 => by
          by_cases e : j = i + n
          · rw [e]; exact hb
          · exact p3 j j1 (by omega)
        rw [if_pos rfl, if_neg ne10, li 4]
        by_cases h8 : 4 ≤ n
        · rw [if_pos (nI_le h8 (by omega)), lt_def, nI_1]
          exact ⟨s, rfl, by omega, fun z => absurd z (by omega), all⟩
        · have es : (((10 : Int32) * s) + (if i + n < len then nI (b (i + n)) else 0)) - (48 : Int32) = nI (vlN b i (n + 1)) := by
            rw [if_pos (by omega), p2 (by omega), li 10, li 48, pk_mul, nI_add, pk_sub (by omega)]
            rfl
          rw [if_neg (nI_ge (by omega) (by omega)), es, lt_def, lt_def, nI_1]
          exact ⟨_, rfl, by omega, fun _ => rfl, all⟩) 0 ⟨hi, fun _ => rfl, fun j a b => absurd b (by omega)⟩
  refine ⟨a.2, by rw [show f_X12_cutsUp_L208 FU (nI i) 0 0 M = some a from e, ← q1], fun h => ⟨q2 h, ?_⟩⟩
  have h1 := vb (drN b len i - i) h (fun j j1 j2 => sk_all (p := isDg b len) (i := i) 2001 j j1 (by show j < drN b len i; omega))
  have h2 : 10 ^ (drN b len i - i) ≤ 10 ^ 4 := Nat.pow_le_pow_right (by decide) h
  omega
theorem r_key {x : Int64} {x1 x3 : Int32} (hk : ∀ k, k < 23 → M.2.1 74 k = kw k) : f_X12_cutsUp_L146 FU x1 x3 x 1 0 M = some (nI (kwI kw x 23)) := by
  refine loop0 (fun fu y => f_X12_cutsUp_L146 fu x1 x3 x (nI (kwI kw x y)) (nI y) M) _ 23 (by omega) (fun fu => ?_) (fun fu y hy => ?_)
  · show f_X12_cutsUp_L146 (fu + 1) _ _ _ _ _ _ = _
    rw [f_X12_cutsUp_L146, li 23, if_pos (nI_le (Nat.le_refl _) (by omega))]
  · show f_X12_cutsUp_L146 (fu + 1) _ _ _ _ _ _ = f_X12_cutsUp_L146 fu _ _ _ _ _ _
    have es : kwI kw x (y + 1) = if kw y = x then 20 + y else kwI kw x y := rfl
    rw [f_X12_cutsUp_L146, li 23, if_neg (nI_ge hy (by omega)), aj_n (by omega) (by omega), sb, hk y hy, es]
    by_cases h : kw y = x
    · rw [if_pos ((lg_cmp_eq _ _).mpr h), li 20, nI_add, lt_def, lt_def, nI_1, if_pos h]
    · rw [if_neg (fun z => h ((lg_cmp_eq _ _).mp z)), lt_def, nI_1, if_neg h]
/-- a token is put down -/
theorem r_tok {k : Nat} {x1 x2 x3 : Int32} {x4 : Int64} (h10 : M.1 67 10 = nI k) (hk : k < 403) : ∃ M', f_X12_token x1 x2 x3 x4 M = some M' ∧ FrU M M' ∧ M'.1 67 10 = nI (k + 1) ∧ (M'.1 70 k = x1 ∧ M'.1 71 k = x2 ∧ M'.1 72 k = x3 ∧ M'.2.1 73 k = x4) ∧ ∀ j, j ≠ k → M'.1 70 j = M.1 70 j ∧ M'.1 71 j = M.1 71 j ∧ M'.1 72 j = M.1 72 j ∧ M'.2.1 73 j = M.2.1 73 j := by
  let A1 : Mem := sI M 70 k x1
  let A2 : Mem := sI A1 71 k x2
  let A3 : Mem := sI A2 72 k x3
  let A4 : Mem := sJ A3 73 k x4
  have a1 : A1.1 67 10 = nI k := (congrFun (sI_cell (by decide)) 10).trans h10
  have a2 : A2.1 67 10 = nI k := (congrFun (sI_cell (by decide)) 10).trans a1
  have a3 : A3.1 67 10 = nI k := (congrFun (sI_cell (by decide)) 10).trans a2
  have a4 : A4.1 67 10 = nI k := a3
  have c3 : ∀ a, a ≠ 70 → a ≠ 71 → a ≠ 72 → A3.1 a = M.1 a := fun a p q r => (sI_cell r).trans ((sI_cell q).trans (sI_cell p))
  have z3 : ∀ a, a ≠ 67 → (sI A4 67 10 (nI (k + 1))).1 a = A3.1 a := fun a h => sI_cell h
  have k70 : A3.1 70 = A1.1 70 := (sI_cell (M := A2) (by decide)).trans (sI_cell (M := A1) (by decide))
  have k71 : A3.1 71 = A2.1 71 := sI_cell (M := A2) (by decide)
  have k71' : A1.1 71 = M.1 71 := sI_cell (by decide)
  have k72' : A2.1 72 = M.1 72 := (sI_cell (M := A1) (by decide)).trans (sI_cell (by decide))
  refine ⟨sI A4 67 10 (nI (k + 1)), ?_, ⟨fun a p q r s => (z3 a s).trans (c3 a p q r), fun i hi => ?_, fun a h => sJ_cell (M := A3) h, rfl⟩, sI_same, ⟨?_, ?_, ?_, sJ_same (M := A3)⟩, fun j hj => ⟨?_, ?_, ?_, sJ_ix (M := A3) hj⟩⟩
  · unfold f_X12_token
    rw [h10, pg_n hk (by omega), sb]
    show (pg A1 71 403 (A1.1 67 10) x2).bind _ = _
    rw [a1, pg_n hk (by omega), sb]
    show (pg A2 72 403 (A2.1 67 10) x3).bind _ = _
    rw [a2, pg_n hk (by omega), sb]
    show (pj A3 73 403 (A3.1 67 10) x4).bind _ = _
    rw [a3, pj_n hk (by omega), sb]
    show lt (sI A4 67 10 (A4.1 67 10 + 1)) _ = _
    rw [a4, nI_1, lt_def]
  · have e1 : (sI A4 67 10 (nI (k + 1))).1 67 i = A3.1 67 i := sI_ix hi
    rw [e1, c3 67 (by decide) (by decide) (by decide)]
  · rw [z3 70 (by decide), k70]; exact sI_same
  · rw [z3 71 (by decide), k71]; exact sI_same
  · rw [z3 72 (by decide)]; exact sI_same
  · rw [z3 70 (by decide), k70]; exact sI_ix hj
  · rw [z3 71 (by decide), k71, ← k71']; exact sI_ix hj
  · rw [z3 72 (by decide), ← k72']; exact sI_ix hj
end RCU

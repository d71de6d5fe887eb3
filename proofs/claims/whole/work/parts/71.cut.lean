-- 71.cut: pure: the class cuts up its tape
theorem sJ1 (M : Mem) (a i : Nat) (x : Int64) (b j : Nat) : (sJ M a i x).2.1 b j = if b = a ∧ j = i then x else M.2.1 b j := by
  show (if b = a then vp_updL (M.2.1 b) i x else M.2.1 b) j = _
  by_cases h : b = a
  · subst h
    rw [if_pos rfl]
    show (if j = i then x else M.2.1 b j) = _
    by_cases h2 : j = i <;> simp [h2]
  · rw [if_neg h, if_neg (fun z => h z.1)]
theorem sJ_same {M : Mem} {a i : Nat} {x : Int64} : (sJ M a i x).2.1 a i = x := by rw [sJ1, if_pos ⟨rfl, rfl⟩]
theorem sJ_ix {M : Mem} {a i j : Nat} {x : Int64} (h : j ≠ i) : (sJ M a i x).2.1 a j = M.2.1 a j := by rw [sJ1, if_neg (fun z => h z.2)]
theorem sJ_cell {M : Mem} {a i c : Nat} {x : Int64} (h : c ≠ a) : (sJ M a i x).2.1 c = M.2.1 c := by
  funext j
  rw [sJ1, if_neg (fun z => h z.1)]
section CUP
variable {b : Nat → Nat} {len : Nat} {kw : Nat → Int64} {M M' : Mem}
def FrT (M M' : Mem) : Prop := (∀ a, a ≠ 25 → a ≠ 26 → M'.1 a = M.1 a) ∧ (∀ a, a ≠ 27 → M'.2.1 a = M.2.1 a) ∧ M'.2.2 = M.2.2
theorem FrT.rf : FrT M M := ⟨fun _ _ _ => rfl, fun _ _ => rfl, rfl⟩
theorem FrT.tr {M1 : Mem} (h : FrT M M1) (h' : FrT M1 M') : FrT M M' := ⟨fun a p q => (h'.1 a p q).trans (h.1 a p q), fun a p => (h'.2.1 a p).trans (h.2.1 a p), h'.2.2.trans h.2.2⟩
theorem BC.fr (B : BC b len M) (f : FrT M M') : BC b len M' := by
  unfold BC at B ⊢
  rw [f.1 21 (by decide) (by decide), f.1 22 (by decide) (by decide)]
  exact B
theorem c_run (B : BC b len M) {i : Nat} {x2 x3 : Int32} (hi : i ≤ len) : f_X8_cutLetters_L6 FU x2 x3 0 (nI i) M = some (lN (nmN b i (lrN b len i - i)), nI (lrN b len i)) := by
  have hl := B.1
  obtain ⟨k1, k2, k3⟩ := lr_ok (b := b) hl hi
  obtain ⟨a, e, q⟩ := loopX (fun fu y (s : Int64) => f_X8_cutLetters_L6 fu x2 x3 s (nI y) M) (fun y s => i ≤ y ∧ y ≤ len ∧ s = lN (nmN b i (y - i)) ∧ ∀ j, i ≤ j → j < y → isLt b len j = true) (fun a => a = (lN (nmN b i (lrN b len i - i)), nI (lrN b len i))) len (fun fu s hP => by
      have e := sk_u (p := isLt b len) hP.1 k3 hP.2.2.2 (lt_len len (Nat.le_refl _)).1 (fun j a b => sk_all _ j a b) k1
      refine ⟨(s, nI len), ?_, ?_⟩
      · show f_X8_cutLetters_L6 (fu + 1) _ _ _ _ _ = _
        rw [f_X8_cutLetters_L6, B.2.1, if_pos (nI_le (Nat.le_refl _) (by omega))]
      · rw [hP.2.2.1]
        have e' : lrN b len i = len := e.symm
        rw [e']) (fun fu y s hy hP => by
      obtain ⟨p1, p2, p3, p4⟩ := hP
      have hby := (B.2.2 y hy).2
      show (∃ a, f_X8_cutLetters_L6 (fu + 1) _ _ _ _ _ = some a ∧ _) ∨ ∃ s', f_X8_cutLetters_L6 (fu + 1) _ _ _ _ _ = f_X8_cutLetters_L6 fu _ _ _ _ _ ∧ _
      rw [f_X8_cutLetters_L6, B.2.1, if_neg (nI_ge hy (by omega)), c_byte B (by omega), sb, sb, (c_lett (fun _ => hby) (Or.inl rfl)).1, sb]
      cases hb : isLt b len y
      · left
        have e : y = lrN b len i := sk_u (p := isLt b len) p1 k3 p4 hb (fun j a b => sk_all _ j a b) k1
        refine ⟨(s, nI y), by rw [if_neg Bool.false_ne_true, if_pos rfl], ?_⟩
        rw [p3, ← e]
      · right
        have hc : 97 ≤ b y ∧ b y ≤ 122 := by
          unfold isLt at hb
          simp at hb
          exact hb.2
        have es : f_X8_spell s (if y < len then nI (b y) else -1) = some (lN (nmN b i (y + 1 - i))) := by
          rw [if_pos hy]
          unfold f_X8_spell
          have e27 : (27 : Int64) = lN 27 := rfl
          have e97 : (97 : Int64) = lN 97 := rfl
          rw [p3, nI_l (by omega), e27, e97, lN_mul, lN_add, lN_sub (by omega), lN_1, show y + 1 - i = (y - i) + 1 by omega]
          show some (lN _) = some (lN (27 * nmN b i (y - i) + (b (i + (y - i)) - 96)))
          rw [show i + (y - i) = y by omega]
          congr 2
          omega
        refine ⟨lN (nmN b i (y + 1 - i)), by rw [if_pos rfl, if_neg ne10, es, sb, lt_def, nI_1], by omega, by omega, rfl, fun j j1 j2 => ?_⟩
        by_cases e : j = y
        · rw [e]; exact hb
        · exact p4 j j1 (by omega)) (len - i) i FU 0 (by omega) (by show len - i < 1000000; omega) ⟨Nat.le_refl _, hi, by rw [Nat.sub_self]; rfl, fun j a b => absurd b (by omega)⟩
  rw [e, q]
theorem c_drun (B : BC b len M) {i : Nat} {x2 x3 : Int32} (hi : i ≤ len) : f_X8_cutDigits_L6 FU x2 x3 0 (nI i) M = some (lN (vlN b i (drN b len i - i)), nI (drN b len i)) := by
  have hl := B.1
  obtain ⟨k1, k2, k3⟩ := dr_ok (b := b) hl hi
  obtain ⟨a, e, q⟩ := loopX (fun fu y (s : Int64) => f_X8_cutDigits_L6 fu x2 x3 s (nI y) M) (fun y s => i ≤ y ∧ y ≤ len ∧ s = lN (vlN b i (y - i)) ∧ ∀ j, i ≤ j → j < y → isDg b len j = true) (fun a => a = (lN (vlN b i (drN b len i - i)), nI (drN b len i))) len (fun fu s hP => by
      have e := sk_u (p := isDg b len) hP.1 k3 hP.2.2.2 (lt_len len (Nat.le_refl _)).2.1 (fun j a b => sk_all _ j a b) k1
      refine ⟨(s, nI len), ?_, ?_⟩
      · show f_X8_cutDigits_L6 (fu + 1) _ _ _ _ _ = _
        rw [f_X8_cutDigits_L6, B.2.1, if_pos (nI_le (Nat.le_refl _) (by omega))]
      · rw [hP.2.2.1]
        have e' : drN b len i = len := e.symm
        rw [e']) (fun fu y s hy hP => by
      obtain ⟨p1, p2, p3, p4⟩ := hP
      have hby := (B.2.2 y hy).2
      show (∃ a, f_X8_cutDigits_L6 (fu + 1) _ _ _ _ _ = some a ∧ _) ∨ ∃ s', f_X8_cutDigits_L6 (fu + 1) _ _ _ _ _ = f_X8_cutDigits_L6 fu _ _ _ _ _ ∧ _
      rw [f_X8_cutDigits_L6, B.2.1, if_neg (nI_ge hy (by omega)), c_byte B (by omega), sb, sb, (c_digi (fun _ => hby) (Or.inl rfl)).1, sb]
      cases hb : isDg b len y
      · left
        have e : y = drN b len i := sk_u (p := isDg b len) p1 k3 p4 hb (fun j a b => sk_all _ j a b) k1
        refine ⟨(s, nI y), by rw [if_neg Bool.false_ne_true, if_pos rfl], ?_⟩
        rw [p3, ← e]
      · right
        have hc : 48 ≤ b y ∧ b y ≤ 57 := by
          unfold isDg at hb
          simp at hb
          exact hb.2
        have es : ((s * (10 : Int64)) + (if y < len then nI (b y) else -1).toInt64) - (48 : Int64) = lN (vlN b i (y + 1 - i)) := by
          rw [if_pos hy]
          have e10 : (10 : Int64) = lN 10 := rfl
          have e48 : (48 : Int64) = lN 48 := rfl
          rw [p3, nI_l (by omega), e10, e48, lN_mul, lN_add, lN_sub (by omega), show y + 1 - i = (y - i) + 1 by omega]
          show lN _ = lN (10 * vlN b i (y - i) + b (i + (y - i)) - 48)
          rw [show i + (y - i) = y by omega, Nat.mul_comm]
        refine ⟨lN (vlN b i (y + 1 - i)), by rw [if_pos rfl, if_neg ne10, es, lt_def, lt_def, nI_1], by omega, by omega, rfl, fun j j1 j2 => ?_⟩
        by_cases e : j = y
        · rw [e]; exact hb
        · exact p4 j j1 (by omega)) (len - i) i FU 0 (by omega) (by show len - i < 1000000; omega) ⟨Nat.le_refl _, hi, by rw [Nat.sub_self]; rfl, fun j a b => absurd b (by omega)⟩
  rw [e, q]
theorem c_key {x : Int64} (hk : ∀ k, k < 23 → M.2.1 28 k = kw k) (hd : ∀ i j, i < j → j < 23 → kw i ≠ kw j) : f_X8_kindOf x M = some (nI (cmN (kwI kw x 23))) := by
  obtain ⟨a, e, q⟩ := loopQ (fun fu y (_ : Unit) => f_X8_kindOf_L2 (fun _ => some (2 : Int32)) fu x (nI y) M) (fun y _ => ∀ j, j < y → kw j ≠ x) (fun a => a = nI (cmN (kwI kw x 23))) 23 (by omega) (fun fu s hP => by
      refine ⟨2, ?_, ?_⟩
      · show f_X8_kindOf_L2 _ (fu + 1) _ _ _ = _
        rw [f_X8_kindOf_L2, li 23, if_pos (nI_le (Nat.le_refl _) (by omega))]
      · rw [kw_no hP]; rfl) (fun fu y s hy hP => by
      show (∃ a, f_X8_kindOf_L2 _ (fu + 1) _ _ _ = some a ∧ _) ∨ ∃ s' : Unit, f_X8_kindOf_L2 _ (fu + 1) _ _ _ = f_X8_kindOf_L2 _ fu _ _ _ ∧ _
      rw [f_X8_kindOf_L2, li 23, if_neg (nI_ge hy (by omega)), aj_n (by omega) (by omega), sb, hk y hy]
      by_cases h : kw y = x
      · left
        rw [if_pos ((lg_cmp_eq _ _).mpr h)]
        refine ⟨_, rfl, ?_⟩
        rw [kw_at hd hy (Nat.le_refl _) h, li 128, nI_add]
        have : cmN (20 + y) = 128 + y := by
          unfold cmN
          rw [if_neg (by omega), if_neg (by omega), if_neg (by omega), if_neg (by omega), if_neg (by omega), if_neg (by omega), if_neg (by omega), if_neg (by omega), if_neg (by omega), if_neg (by omega), if_neg (by omega), if_neg (by omega), if_neg (by omega)]
          omega
        rw [this]
      · right
        rw [if_neg (fun z => h ((lg_cmp_eq _ _).mp z)), lt_def, nI_1]
        refine ⟨(), rfl, fun j hj => ?_⟩
        by_cases e : j = y
        · rw [e]; exact h
        · exact hP j (by omega)) () (fun j hj => absurd hj (by omega))
  unfold f_X8_kindOf
  rw [show f_X8_kindOf_L2 (fun _ => some (2 : Int32)) FU x 0 M = some a from e, q]
theorem c_sgn {c : Nat} (hc : c < 256) : (if sIx (((nI c).toUInt32 % 65536).toInt32) < 0 then (1 : Int32) else nI c) = nI (cmN (sgN c)) := by
  have : ∀ c, c < 256 → (if sIx (((nI c).toUInt32 % 65536).toInt32) < 0 then (1 : Int32) else nI c) = nI (cmN (sgN c)) := by decide +kernel
  exact this c hc
/-- the token at i, as number k -/
theorem c_one (B : BC b len M) (hk : ∀ k, k < 23 → M.2.1 28 k = kw k) (hd : ∀ i j, i < j → j < 23 → kw i ≠ kw j) {i k : Nat} (hi : i ≤ len) (hkk : k < 401) : ∃ M', f_X8_cutOne (nI i) (nI k) M = some (if i < len then nI (tkE b len i) else nI (i + 1), M') ∧ M'.1 = (sI M 25 k (nI (cmN (tkK b len kw i)))).1 ∧ (∀ a j, a ≠ 27 ∨ j ≠ k → M'.2.1 a j = M.2.1 a j) ∧ M'.2.2 = M.2.2 ∧ (isLt b len i = true → M'.2.1 27 k = lN (nmN b i (lrN b len i - i))) ∧ (isDg b len i = true → M'.2.1 27 k = lN (vlN b i (drN b len i - i))) := by
  have hl := B.1
  unfold f_X8_cutOne
  rw [c_byte B (by omega), sb, (c_lett (fun h => (B.2.2 i h).2) (Or.inl rfl)).1, sb, (c_digi (fun h => (B.2.2 i h).2) (Or.inl rfl)).1, sb]
  have notboth : isLt b len i = true → isDg b len i = false := by
    unfold isLt isDg
    intro h
    simp at h ⊢
    intro _ _
    omega
  cases h1 : isLt b len i
  · rw [if_neg Bool.false_ne_true, if_pos rfl]
    cases h2 : isDg b len i
    · rw [if_neg Bool.false_ne_true, if_pos rfl]
      by_cases hi2 : i < len
      · have hb := (B.2.2 i hi2).2
        have ek : tkK b len kw i = sgN (b i) := by
          unfold tkK
          rw [if_neg (by omega), h1, if_neg Bool.false_ne_true, h2, if_neg Bool.false_ne_true]
        have ee : tkE b len i = i + 1 := by
          unfold tkE
          rw [h1, if_neg Bool.false_ne_true, h2, if_neg Bool.false_ne_true]
        refine ⟨sI M 25 k (nI (cmN (tkK b len kw i))), ?_, rfl, fun _ _ _ => rfl, rfl, fun z => (by cases z), fun z => (by cases z)⟩
        rw [if_pos hi2, if_pos hi2, if_neg (nm1 (by omega)), lt_def, c_sgn hb, lt_def, pg_n (by omega) (by omega), sb, nI_1, ee, ek]
      · have ek : tkK b len kw i = 0 := if_pos (by omega)
        refine ⟨sI M 25 k (nI (cmN (tkK b len kw i))), ?_, rfl, fun _ _ _ => rfl, rfl, fun z => (by cases z), fun z => (by cases z)⟩
        rw [if_neg hi2, if_neg hi2, if_pos rfl, show pg M 25 401 (nI k) 0 = some (sI M 25 k 0) from pg_n (by omega) (by omega), sb, nI_1, ek]
        rfl
    · have hi2 : i < len := by
        rcases Nat.lt_or_ge i len with q | q
        · exact q
        · rw [(lt_len i q).2.1] at h2; cases h2
      obtain ⟨d1, d2, d3⟩ := dr_ok (b := b) hl hi
      have ek : tkK b len kw i = if drN b len i - i ≤ 4 then 2 else 3 := by
        unfold tkK
        rw [if_neg (by omega), h1, if_neg Bool.false_ne_true, h2, if_pos rfl]
      have ee : tkE b len i = drN b len i := by
        unfold tkE
        rw [h1, if_neg Bool.false_ne_true, h2, if_pos rfl]
      have et : (if nI (drN b len i) - nI i ≤ (4 : Int32) then (3 : Int32) else 1) = nI (cmN (tkK b len kw i)) := by
        rw [pk_sub d3, ek, li 4]
        by_cases h : drN b len i - i ≤ 4
        · rw [if_pos (nI_le h (by omega)), if_pos h]; rfl
        · rw [if_neg (nI_ge (by omega) (by omega)), if_neg h]; rfl
      refine ⟨sI (sJ M 27 k (lN (vlN b i (drN b len i - i)))) 25 k (nI (cmN (tkK b len kw i))), ?_, rfl, fun a j h => ?_, rfl, fun z => (by cases z), fun _ => sJ_same⟩
      · unfold f_X8_cutDigits
        rw [if_pos rfl, if_neg ne10, c_drun B hi, sb, pj_n (by omega) (by omega), sb, et, lt_def, pg_n (by omega) (by omega), sb, sb, if_pos hi2, ee]
      · show (sJ M 27 k _).2.1 a j = _
        rw [sJ1, if_neg (by omega)]
  · have hi2 : i < len := by
      rcases Nat.lt_or_ge i len with q | q
      · exact q
      · rw [(lt_len i q).1] at h1; cases h1
    obtain ⟨d1, d2, d3⟩ := lr_ok (b := b) hl hi
    have ek : tkK b len kw i = if lrN b len i - i ≤ 8 then kwI kw (lN (nmN b i (lrN b len i - i))) 23 else 3 := by
      unfold tkK
      rw [if_neg (by omega), h1, if_pos rfl]
    have ee : tkE b len i = lrN b len i := by
      unfold tkE
      rw [h1, if_pos rfl]
    have et : (if nI (lrN b len i) - nI i ≤ (8 : Int32) then (f_X8_kindOf (lN (nmN b i (lrN b len i - i))) (sJ M 27 k (lN (nmN b i (lrN b len i - i))))).bind fun v18 => some v18 else some (1 : Int32)) = some (nI (cmN (tkK b len kw i))) := by
      rw [pk_sub d3, ek, li 8]
      by_cases h : lrN b len i - i ≤ 8
      · rw [if_pos (nI_le h (by omega)), if_pos h, c_key (fun q hq => by rw [sJ_cell (by decide)]; exact hk q hq) hd, sb]
      · rw [if_neg (nI_ge (by omega) (by omega)), if_neg h]; rfl
    refine ⟨sI (sJ M 27 k (lN (nmN b i (lrN b len i - i)))) 25 k (nI (cmN (tkK b len kw i))), ?_, rfl, fun a j h => ?_, rfl, fun _ => sJ_same, fun z => by rw [notboth h1] at z; cases z⟩
    · unfold f_X8_cutLetters
      rw [if_pos rfl, if_neg ne10, c_run B hi, sb, pj_n (by omega) (by omega), sb, et, sb, pg_n (by omega) (by omega), sb, sb, if_pos hi2, ee]
    · show (sJ M 27 k _).2.1 a j = _
      rw [sJ1, if_neg (by omega)]
end CUP

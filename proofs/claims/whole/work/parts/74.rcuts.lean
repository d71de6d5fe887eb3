-- 74.rcuts: pure: the reference cuts up its text, token by token
section RCV
variable {b : Nat → Nat} {len : Nat} {kw : Nat → Int64} {M M0 : Mem}
theorem bk_no {i : Nat} (hl : len ≤ 2000) (hi : i ≤ len) (h : isBl b len i = false) : bkN b len i = i := by
  obtain ⟨k1, k2, k3⟩ := bk_ok (b := b) hl hi
  exact sk_u (p := isBl b len) k3 (Nat.le_refl _) (fun j a b => sk_all _ j a b) k1 (fun j a b => absurd b (by omega)) h
theorem bk_yes {i : Nat} (hl : len ≤ 2000) (hi : i < len) (h : isBl b len i = true) : bkN b len (i + 1) = bkN b len i := by
  obtain ⟨k1, k2, k3⟩ := bk_ok (b := b) hl (show i + 1 ≤ len by omega)
  obtain ⟨l1, l2, l3⟩ := bk_ok (b := b) hl (show i ≤ len by omega)
  refine sk_u (p := isBl b len) (i := i) (by omega) l3 (fun j a c => ?_) k1 (fun j a b => sk_all _ j a b) l1
  by_cases e : j = i
  · rw [e]; exact h
  · exact sk_all (p := isBl b len) (i := i + 1) 2001 j (by omega) c
theorem blank_b {c : Nat} (hc : c < 256) : (nI c = 9 ∨ nI c = 10 ∨ nI c = 13 ∨ nI c = 32) ↔ (c == 9 || c == 10 || c == 13 || c == 32) = true := by
  have : ∀ c, c < 256 → ((nI c = 9 ∨ nI c = 10 ∨ nI c = 13 ∨ nI c = 32) ↔ (c == 9 || c == 10 || c == 13 || c == 32) = true) := by decide +kernel
  exact this c hc
theorem r_sgn {c : Nat} (hc : c < 256) : (lt (if nI c = (59 : Int32) then (4 : Int32) else if nI c = (61 : Int32) then (5 : Int32) else if nI c = (40 : Int32) then (6 : Int32) else if nI c = (41 : Int32) then (7 : Int32) else (3 : Int32)) fun t1 => lt (if nI c = (43 : Int32) then (8 : Int32) else t1) fun t6 => lt (if nI c = (45 : Int32) then (9 : Int32) else t6) fun t8 => lt (if nI c = (42 : Int32) then (10 : Int32) else t8) fun t10 => lt (if nI c = (47 : Int32) then (15 : Int32) else t10) fun t12 => lt (if nI c = (60 : Int32) then (13 : Int32) else t12) fun t14 => t14) = nI (sgN c) := by
  have : ∀ c, c < 256 → (lt (if nI c = (59 : Int32) then (4 : Int32) else if nI c = (61 : Int32) then (5 : Int32) else if nI c = (40 : Int32) then (6 : Int32) else if nI c = (41 : Int32) then (7 : Int32) else (3 : Int32)) fun t1 => lt (if nI c = (43 : Int32) then (8 : Int32) else t1) fun t6 => lt (if nI c = (45 : Int32) then (9 : Int32) else t6) fun t8 => lt (if nI c = (42 : Int32) then (10 : Int32) else t8) fun t10 => lt (if nI c = (47 : Int32) then (15 : Int32) else t10) fun t12 => lt (if nI c = (60 : Int32) then (13 : Int32) else t12) fun t14 => t14) = nI (sgN c) := by decide +kernel
  exact this c hc
/-- what a new token leaves -/
theorem TKM.add {k : Nat} {M M' : Mem} (T : TKM b len kw k M) (e1 : M'.1 70 k = nI (tK b len kw k)) (e2 : M'.1 71 k = nI (stN b len k)) (e3 : tK b len kw k = 2 → M'.1 72 k = nI (tV b len k)) (e4 : tK b len kw k = 1 → M'.2.1 73 k = tN b len k) (o : ∀ j, j ≠ k → M'.1 70 j = M.1 70 j ∧ M'.1 71 j = M.1 71 j ∧ M'.1 72 j = M.1 72 j ∧ M'.2.1 73 j = M.2.1 73 j) : TKM b len kw (k + 1) M' := fun j hj => by
  by_cases e : j = k
  · subst e; exact ⟨e1, e2, e3, e4⟩
  · obtain ⟨a1, a2, a3, a4⟩ := T j (by omega)
    obtain ⟨o1, o2, o3, o4⟩ := o j e
    exact ⟨o1.trans a1, o2.trans a2, fun h => o3.trans (a3 h), fun h => o4.trans (a4 h)⟩
set_option maxRecDepth 20000 in
theorem r_cuts (hd : ∀ i j, i < j → j < 23 → kw i ≠ kw j) : ∀ (m fu i k : Nat) (M : Mem), m < fu → 2 * (len - i) + (401 - k) ≤ m → k ≤ 401 → i ≤ len → BM b len M → (∀ k, k < 23 → M.2.1 74 k = kw k) → FrU M0 M → M.1 67 10 = nI k → TKM b len kw k M → bkN b len i = stN b len k → (∀ j, j < k → tK b len kw j ≠ 0) → ∃ M' E, f_X12_cutsUp_L7 (fun t74 => some t74) fu (nI i) M = some M' ∧ FrU M0 M' ∧ E ≤ 400 ∧ TKM b len kw (E + 1) M' ∧ (E = 400 ∨ tK b len kw E = 0) ∧ ∀ j, j < E → tK b len kw j ≠ 0
  | 0, fu, i, k, M, hfu, hm, hk, hi, B, hK, fr, h10, T, hst, hne => by
    obtain ⟨q, rfl⟩ : ∃ q, fu = q + 1 := ⟨fu - 1, by omega⟩
    have : k = 401 := by omega
    subst this
    refine ⟨M, 400, ?_, fr, Nat.le_refl _, T, Or.inl rfl, fun j hj => hne j (by omega)⟩
    rw [f_X12_cutsUp_L7, h10, li 400, if_pos (nI_lt' (by omega) (by omega))]
  | m + 1, fu, i, k, M, hfu, hm, hk, hi, B, hK, fr, h10, T, hst, hne => by
    obtain ⟨q, rfl⟩ : ∃ q, fu = q + 1 := ⟨fu - 1, by omega⟩
    have hl := B.1
    by_cases h401 : k = 401
    · subst h401
      refine ⟨M, 400, ?_, fr, Nat.le_refl _, T, Or.inl rfl, fun j hj => hne j (by omega)⟩
      rw [f_X12_cutsUp_L7, h10, li 400, if_pos (nI_lt' (by omega) (by omega))]
    rw [f_X12_cutsUp_L7, h10, li 400, if_neg (nI_nlt' (nI_le (by omega) (by omega))), r_byte B (by omega), sb, B.2.1]
    by_cases hil : i < len
    case neg =>
      have : i = len := by omega
      subst this
      have hb0 : isBl b i i = false := (lt_len i (Nat.le_refl _)).2.2
      have es : stN b i k = i := by rw [← hst]; exact bk_no hl (Nat.le_refl _) hb0
      have e0 : tK b i kw k = 0 := by
        show tkK b i kw (stN b i k) = 0
        rw [es]; exact tk_0.mpr (Nat.le_refl _)
      obtain ⟨M1, e1, f1, g10, ⟨g1, g2, g3, g4⟩, go⟩ := r_tok (x1 := 0) (x2 := nI i) (x3 := 0) (x4 := 0) h10 (by omega)
      refine ⟨M1, k, ?_, fr.tr f1, by omega, T.add (by rw [g1, e0]; rfl) (by rw [g2, es]) (fun z => by rw [e0] at z; cases z) (fun z => by rw [e0] at z; cases z) go, Or.inr e0, hne⟩
      rw [if_neg (nI_nlt' (nI_le (Nat.le_refl _) (by omega))), e1, sb]
    have hby := (B.2.2 i hil).2
    rw [if_pos (nI_lt' hil (by omega)), if_pos hil]
    by_cases hbl : isBl b len i = true
    · -- a blank
      have hbb : (b i == 9 || b i == 10 || b i == 13 || b i == 32) = true := by
        unfold isBl at hbl
        rw [decide_eq_true hil, Bool.true_and] at hbl
        exact hbl
      obtain ⟨M', E, e, r⟩ := r_cuts hd m q (i + 1) k M (by omega) (by omega) hk (by omega) B hK fr h10 T ((bk_yes hl hil hbl).trans hst) hne
      refine ⟨M', E, ?_, r⟩
      simp only [lt_def]
      rw [nI_1 i, e]
      rcases (blank_b hby).mpr hbb with h | h | h | h
      · rw [if_pos h]
      · rw [if_neg (by rw [h]; decide), if_pos h]
      · rw [if_neg (by rw [h]; decide), if_neg (by rw [h]; decide), if_pos h]
      · rw [if_neg (by rw [h]; decide), if_neg (by rw [h]; decide), if_neg (by rw [h]; decide), if_pos h]
    have hbl0 : isBl b len i = false := by simpa using hbl
    have es : stN b len k = i := by rw [← hst]; exact bk_no hl hi hbl0
    have hnb : ¬ (nI (b i) = 9 ∨ nI (b i) = 10 ∨ nI (b i) = 13 ∨ nI (b i) = 32) := fun z => by
      have := (blank_b hby).mp z
      unfold isBl at hbl0
      rw [decide_eq_true hil, Bool.true_and, this] at hbl0
      cases hbl0
    have n9 : ¬ nI (b i) = 9 := fun z => hnb (Or.inl z)
    have n10 : ¬ nI (b i) = 10 := fun z => hnb (Or.inr (Or.inl z))
    have n13 : ¬ nI (b i) = 13 := fun z => hnb (Or.inr (Or.inr (Or.inl z)))
    have n32 : ¬ nI (b i) = 32 := fun z => hnb (Or.inr (Or.inr (Or.inr z)))
    obtain ⟨t1, t2⟩ := tkE_ok (b := b) hl hil
    have eps : psN b len (k + 1) = tkE b len i := by
      show tkE b len (stN b len k) = _
      rw [es]
    have ek : tK b len kw k = tkK b len kw i := by
      show tkK b len kw (stN b len k) = _
      rw [es]
    have kne : tK b len kw k ≠ 0 := fun z => by
      rw [ek] at z
      have := tk_0.mp z
      omega
    have hne' : ∀ j, j < k + 1 → tK b len kw j ≠ 0 := fun j hj => by
      by_cases e : j = k
      · rw [e]; exact kne
      · exact hne j (by omega)
    have lett := (c_lett (b := b) (len := len) (i := i) (fun _ => hby) (x := 0) (Or.inr rfl)).2
    have digi := (c_digi (b := b) (len := len) (i := i) (fun _ => hby) (x := 0) (Or.inr rfl)).2
    rw [if_pos hil] at lett digi
    rw [if_neg n9, if_neg n10, if_neg n13, if_neg n32, lett, sb, digi, sb]
    cases h1 : isLt b len i
    · rw [if_neg Bool.false_ne_true, if_pos rfl]
      cases h2 : isDg b len i
      · -- a sign
        have ek2 : tkK b len kw i = sgN (b i) := by
          unfold tkK
          rw [if_neg (by omega), h1, if_neg Bool.false_ne_true, h2, if_neg Bool.false_ne_true]
        have ee : tkE b len i = i + 1 := by
          unfold tkE
          rw [h1, if_neg Bool.false_ne_true, h2, if_neg Bool.false_ne_true]
        have sn := sg_no (b i)
        obtain ⟨M1, e1, f1, g10, ⟨g1, g2, g3, g4⟩, go⟩ := r_tok (x1 := nI (sgN (b i))) (x2 := nI i) (x3 := 0) (x4 := 0) h10 (by omega)
        have T1 := T.add (M' := M1) (by rw [g1, ek, ek2]) (by rw [g2, es]) (fun z => by rw [ek, ek2] at z; omega) (fun z => by rw [ek, ek2] at z; omega) go
        have B1 := B.fr f1
        have sg : ∀ x3, f_X12_sign (nI i) (nI (b i)) x3 M = some (1, M1) := fun x3 => by
          have := r_sgn hby
          unfold f_X12_sign
          simp only [lt_def] at this ⊢
          rw [this, e1, sb]
        obtain ⟨M', E, e, r⟩ := r_cuts hd m q (i + 1) (k + 1) M1 (by omega) (by omega) (by omega) (by omega) B1 (fun k hk => by rw [f1.2.2.1 74 (by decide)]; exact hK k hk) (fr.tr f1) g10 T1 (by rw [← ee, ← eps]; rfl) hne'
        refine ⟨M', E, ?_, r⟩
        rw [if_neg Bool.false_ne_true, if_pos rfl, nI_1, r_byte B (by omega), sb, sg, sb, lt_def, li 1, nI_add]
        exact e
      · -- a number
        obtain ⟨d1, d2, d3⟩ := dr_ok (b := b) hl hi
        have ek2 : tkK b len kw i = if drN b len i - i ≤ 4 then 2 else 3 := by
          unfold tkK
          rw [if_neg (by omega), h1, if_neg Bool.false_ne_true, h2, if_pos rfl]
        have ee : tkE b len i = drN b len i := by
          unfold tkE
          rw [h1, if_neg Bool.false_ne_true, h2, if_pos rfl]
        obtain ⟨x, ex, hx⟩ := r_drun B hi
        obtain ⟨M1, e1, f1, g10, ⟨g1, g2, g3, g4⟩, go⟩ := r_tok (x1 := nI (tkK b len kw i)) (x2 := nI i) (x3 := x) (x4 := 0) h10 (by omega)
        have T1 := T.add (M' := M1) (by rw [g1, ek]) (by rw [g2, es]) (fun z => by
          rw [ek, ek2] at z
          have h4 : drN b len i - i ≤ 4 := by
            by_cases q : drN b len i - i ≤ 4
            · exact q
            · rw [if_neg q] at z; omega
          rw [g3, (hx h4).1]
          show _ = nI (vlN b (stN b len k) (drN b len (stN b len k) - stN b len k))
          rw [es]) (fun z => by
          rw [ek, ek2] at z
          split at z <;> omega) go
        obtain ⟨M', E, e, r⟩ := r_cuts hd m q (drN b len i) (k + 1) M1 (by omega) (by omega) (by omega) d2 (B.fr f1) (fun k hk => by rw [f1.2.2.1 74 (by decide)]; exact hK k hk) (fr.tr f1) g10 T1 (by rw [← ee, ← eps]; rfl) hne'
        refine ⟨M', E, ?_, r⟩
        have et : (if nI (drN b len i - i) ≤ (4 : Int32) then (2 : Int32) else 3) = nI (tkK b len kw i) := by
          rw [ek2, li 4]
          by_cases h : drN b len i - i ≤ 4
          · rw [if_pos (nI_le h (by omega)), if_pos h]; rfl
          · rw [if_neg (nI_ge (by omega) (by omega)), if_neg h]; rfl
        rw [if_pos rfl, if_neg ne10, ex, sb, et, lt_def, e1, sb, nI_add, lt_def, show i + (drN b len i - i) = drN b len i by omega]
        exact e
    · -- a word
      obtain ⟨d1, d2, d3⟩ := lr_ok (b := b) hl hi
      have ek2 : tkK b len kw i = if lrN b len i - i ≤ 8 then kwI kw (lN (nmN b i (lrN b len i - i))) 23 else 3 := by
        unfold tkK
        rw [if_neg (by omega), h1, if_pos rfl]
      have ee : tkE b len i = lrN b len i := by
        unfold tkE
        rw [h1, if_pos rfl]
      obtain ⟨x, ex, hx⟩ := r_lrun B hi
      obtain ⟨M1, e1, f1, g10, ⟨g1, g2, g3, g4⟩, go⟩ := r_tok (x1 := nI (tkK b len kw i)) (x2 := nI i) (x3 := 0) (x4 := x) h10 (by omega)
      have T1 := T.add (M' := M1) (by rw [g1, ek]) (by rw [g2, es]) (fun z => by
        rw [ek] at z
        have := tk_2 z
        unfold isLt at h1
        unfold isDg at this
        simp at h1 this
        omega) (fun z => by
        rw [ek, ek2] at z
        have h8 : lrN b len i - i ≤ 8 := by
          by_cases q : lrN b len i - i ≤ 8
          · exact q
          · rw [if_neg q] at z; omega
        rw [g4, hx h8]
        show _ = lN (nmN b (stN b len k) (lrN b len (stN b len k) - stN b len k))
        rw [es]) go
      obtain ⟨M', E, e, r⟩ := r_cuts hd m q (lrN b len i) (k + 1) M1 (by omega) (by omega) (by omega) d2 (B.fr f1) (fun k hk => by rw [f1.2.2.1 74 (by decide)]; exact hK k hk) (fr.tr f1) g10 T1 (by rw [← ee, ← eps]; rfl) hne'
      refine ⟨M', E, ?_, r⟩
      rw [if_pos rfl, if_neg ne10, ex, sb, li 8]
      by_cases h : lrN b len i - i ≤ 8
      · rw [if_pos (nI_le h (by omega)), lt_def, if_neg (nI_nlt' (nI_le h (by omega))), r_key hK, sb, sb]
        rw [if_pos h, ← hx h] at ek2
        rw [← ek2, e1, sb, nI_add, lt_def, show i + (lrN b len i - i) = lrN b len i by omega]
        exact e
      · rw [if_neg (nI_ge (by omega) (by omega)), lt_def, if_pos (nI_lt' (by omega) (by omega)), sb]
        rw [if_neg h] at ek2
        have e1' : f_X12_token 3 (nI i) 0 x M = some M1 := by
          rw [ek2] at e1
          exact e1
        rw [e1', sb, nI_add, lt_def, show i + (lrN b len i - i) = lrN b len i by omega]
        exact e
end RCV

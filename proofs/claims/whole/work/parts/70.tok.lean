-- 70.tok: pure: the tokens of a tape, as numbers
section TOK
variable (b : Nat → Nat) (len : Nat) (kw : Nat → Int64)
def isLt (i : Nat) : Bool := decide (i < len) && (decide (97 ≤ b i) && decide (b i ≤ 122))
def isDg (i : Nat) : Bool := decide (i < len) && (decide (48 ≤ b i) && decide (b i ≤ 57))
def isBl (i : Nat) : Bool := decide (i < len) && (b i == 9 || b i == 10 || b i == 13 || b i == 32)
/-- the first from i on of which p does not hold -/
def skN (p : Nat → Bool) (i : Nat) : Nat → Nat
  | 0 => i
  | k + 1 => if p (skN p i k) then skN p i k + 1 else skN p i k
end TOK
theorem sk_s (p : Nat → Bool) (i k : Nat) : skN p i (k + 1) = if p (skN p i k) then skN p i k + 1 else skN p i k := rfl
theorem sk_ge (p : Nat → Bool) (i : Nat) : ∀ k, i ≤ skN p i k ∧ skN p i k ≤ i + k
  | 0 => ⟨Nat.le_refl _, Nat.le_refl _⟩
  | k + 1 => by
    have := sk_ge p i k
    rw [sk_s]
    split <;> omega
/-- it stands still once p fails -/
theorem sk_fix {p : Nat → Bool} {i : Nat} : ∀ k, p (skN p i k) = false → ∀ m, skN p i (k + m) = skN p i k
  | k, h, 0 => rfl
  | k, h, m + 1 => by
    rw [← Nat.add_assoc, sk_s, sk_fix k h m, h]
    rfl
theorem sk_all {p : Nat → Bool} {i : Nat} : ∀ k j, i ≤ j → j < skN p i k → p j = true
  | 0, j, h1, h2 => absurd h2 (by show ¬ j < i; omega)
  | k + 1, j, h1, h2 => by
    rw [sk_s] at h2
    cases hp : p (skN p i k)
    · rw [hp] at h2
      exact sk_all k j h1 h2
    · rw [hp] at h2
      have h2 : j < skN p i k + 1 := h2
      by_cases e : j = skN p i k
      · rw [e]; exact hp
      · exact sk_all k j h1 (by omega)
/-- far enough it stops: p holds of none from len on -/
theorem sk_stop {p : Nat → Bool} {i len : Nat} (hp : ∀ j, len ≤ j → p j = false) (hi : i ≤ len) {k : Nat} (hk : len ≤ i + k) : p (skN p i k) = false ∧ skN p i k ≤ len := by
  have key : ∀ k, skN p i k ≤ len := by
    intro k
    induction k with
    | zero => exact hi
    | succ k ih =>
      rw [sk_s]
      cases h : p (skN p i k)
      · exact ih
      · have : skN p i k < len := by
          rcases Nat.lt_or_ge (skN p i k) len with q | q
          · exact q
          · rw [hp _ q] at h; cases h
        show skN p i k + 1 ≤ len
        omega
  refine ⟨?_, key k⟩
  cases h : p (skN p i k)
  · rfl
  · exfalso
    have all : ∀ m, m ≤ k → skN p i m = i + m := by
      intro m
      induction m with
      | zero => intro _; rfl
      | succ m ih =>
        intro hm
        have e := ih (by omega)
        rw [sk_s]
        cases hq : p (skN p i m)
        · have := sk_fix m hq (k - m)
          rw [show m + (k - m) = k by omega] at this
          rw [this, hq] at h
          cases h
        · show skN p i m + 1 = _
          omega
    have e := all k (Nat.le_refl _)
    rw [hp (skN p i k) (by omega)] at h
    cases h
section TOL
variable (b : Nat → Nat) (len : Nat) (kw : Nat → Int64)
/-- a word spelled: the letters i .. i + k - 1 -/
def nmN (i : Nat) : Nat → Nat
  | 0 => 0
  | k + 1 => 27 * nmN i k + (b (i + k) - 96)
def vlN (i : Nat) : Nat → Nat
  | 0 => 0
  | k + 1 => 10 * vlN i k + b (i + k) - 48
def kwI (x : Int64) : Nat → Nat
  | 0 => 1
  | k + 1 => if kw k = x then 20 + k else kwI x k
def sgN (c : Nat) : Nat := if c = 59 then 4 else if c = 61 then 5 else if c = 40 then 6 else if c = 41 then 7 else if c = 43 then 8 else if c = 45 then 9 else if c = 42 then 10 else if c = 47 then 15 else if c = 60 then 13 else 3
/-- the class's number of a kind -/
def cmN (k : Nat) : Nat := if k = 0 then 0 else if k = 1 then 2 else if k = 2 then 3 else if k = 3 then 1 else if k = 4 then 59 else if k = 5 then 61 else if k = 6 then 40 else if k = 7 then 41 else if k = 8 then 43 else if k = 9 then 45 else if k = 10 then 42 else if k = 13 then 60 else if k = 15 then 47 else 108 + k
def lrN (i : Nat) : Nat := skN (isLt b len) i 2001
def drN (i : Nat) : Nat := skN (isDg b len) i 2001
def bkN (i : Nat) : Nat := skN (isBl b len) i 2001
/-- kind, value, word, and where it ends, of the token at i -/
def tkK (i : Nat) : Nat := if len ≤ i then 0 else if isLt b len i then (if lrN b len i - i ≤ 8 then kwI kw (lN (nmN b i (lrN b len i - i))) 23 else 3) else if isDg b len i then (if drN b len i - i ≤ 4 then 2 else 3) else sgN (b i)
def tkE (i : Nat) : Nat := if isLt b len i then lrN b len i else if isDg b len i then drN b len i else i + 1
/-- where the k-th begins to be looked for; where it stands -/
def psN : Nat → Nat
  | 0 => 0
  | k + 1 => tkE b len (bkN b len (psN k))
def stN (k : Nat) : Nat := bkN b len (psN b len k)
def tK (k : Nat) : Nat := tkK b len kw (stN b len k)
def tV (k : Nat) : Nat := vlN b (stN b len k) (drN b len (stN b len k) - stN b len k)
def tN (k : Nat) : Int64 := lN (nmN b (stN b len k) (lrN b len (stN b len k) - stN b len k))
end TOL
section TOM
variable {b : Nat → Nat} {len : Nat} {kw : Nat → Int64}
theorem lt_len (j : Nat) (h : len ≤ j) : isLt b len j = false ∧ isDg b len j = false ∧ isBl b len j = false := by
  unfold isLt isDg isBl
  rw [decide_eq_false (by omega)]
  exact ⟨rfl, rfl, rfl⟩
theorem lr_ok {i : Nat} (hl : len ≤ 2000) (hi : i ≤ len) : isLt b len (lrN b len i) = false ∧ lrN b len i ≤ len ∧ i ≤ lrN b len i := by
  have := sk_stop (p := isLt b len) (i := i) (len := len) (k := 2001) (fun j h => (lt_len j h).1) hi (by omega)
  exact ⟨this.1, this.2, (sk_ge _ _ _).1⟩
theorem dr_ok {i : Nat} (hl : len ≤ 2000) (hi : i ≤ len) : isDg b len (drN b len i) = false ∧ drN b len i ≤ len ∧ i ≤ drN b len i := by
  have := sk_stop (p := isDg b len) (i := i) (len := len) (k := 2001) (fun j h => (lt_len j h).2.1) hi (by omega)
  exact ⟨this.1, this.2, (sk_ge _ _ _).1⟩
theorem bk_ok {i : Nat} (hl : len ≤ 2000) (hi : i ≤ len) : isBl b len (bkN b len i) = false ∧ bkN b len i ≤ len ∧ i ≤ bkN b len i := by
  have := sk_stop (p := isBl b len) (i := i) (len := len) (k := 2001) (fun j h => (lt_len j h).2.2) hi (by omega)
  exact ⟨this.1, this.2, (sk_ge _ _ _).1⟩
/-- the stop is the only one: all before it hold, it does not -/
theorem sk_u {p : Nat → Bool} {i a c : Nat} (ha : i ≤ a) (hc : i ≤ c) (h1 : ∀ j, i ≤ j → j < a → p j = true) (h2 : p a = false) (h3 : ∀ j, i ≤ j → j < c → p j = true) (h4 : p c = false) : a = c := by
  rcases Nat.lt_trichotomy a c with q | q | q
  · rw [h3 a ha q] at h2; cases h2
  · exact q
  · rw [h1 c hc q] at h4; cases h4
theorem tkE_ok {i : Nat} (hl : len ≤ 2000) (hi : i < len) : i < tkE b len i ∧ tkE b len i ≤ len := by
  unfold tkE
  by_cases h1 : isLt b len i = true
  · rw [if_pos h1]
    have := lr_ok (b := b) hl (show i ≤ len by omega)
    refine ⟨?_, this.2.1⟩
    rcases Nat.lt_or_ge i (lrN b len i) with q | q
    · exact q
    · rw [show lrN b len i = i by omega, h1] at this
      cases this.1
  · rw [if_neg h1]
    by_cases h2 : isDg b len i = true
    · rw [if_pos h2]
      have := dr_ok (b := b) hl (show i ≤ len by omega)
      refine ⟨?_, this.2.1⟩
      rcases Nat.lt_or_ge i (drN b len i) with q | q
      · exact q
      · rw [show drN b len i = i by omega, h2] at this
        cases this.1
    · rw [if_neg h2]; omega
theorem kw_le (x : Int64) : ∀ k, kwI kw x k < 20 + k ∧ 1 ≤ kwI kw x k ∧ (kwI kw x k = 1 ∨ 20 ≤ kwI kw x k)
  | 0 => ⟨by show (1 : Nat) < 20; omega, Nat.le_refl _, Or.inl rfl⟩
  | k + 1 => by
    have := kw_le x k
    unfold kwI
    split <;> omega
theorem kw_at {x : Int64} {n j : Nat} (hd : ∀ i j, i < j → j < 23 → kw i ≠ kw j) (hj : j < n) (hn : n ≤ 23) (e : kw j = x) : kwI kw x n = 20 + j := by
  induction n with
  | zero => omega
  | succ n ih =>
    unfold kwI
    by_cases h : j = n
    · subst h; rw [if_pos e]
    · rw [if_neg (fun z => hd j n (by omega) (by omega) (e.trans z.symm))]
      exact ih (by omega) (by omega)
theorem kw_no {x : Int64} : ∀ {n}, (∀ j, j < n → kw j ≠ x) → kwI kw x n = 1
  | 0, _ => rfl
  | n + 1, h => by
    unfold kwI
    rw [if_neg (h n (by omega))]
    exact kw_no (fun j hj => h j (by omega))
end TOM
-- the class: bytes
section TOC
variable {b : Nat → Nat} {len : Nat} {kw : Nat → Int64} {M : Mem}
/-- the class's tape holds the bytes b -/
def BC (b : Nat → Nat) (len : Nat) (M : Mem) : Prop := len ≤ 2000 ∧ M.1 21 1 = nI len ∧ ∀ i, i < len → M.1 22 i &&& 255 = nI (b i) ∧ b i < 256
def BM (b : Nat → Nat) (len : Nat) (M : Mem) : Prop := len ≤ 2000 ∧ M.1 67 4 = nI len ∧ ∀ i, i < len → M.1 69 i &&& 255 = nI (b i) ∧ b i < 256
theorem c_byte (B : BC b len M) {i : Nat} (hi : i < 2100) : f_X7_byteAt (nI i) M = some (if i < len then nI (b i) else -1) := by
  have hl := B.1
  unfold f_X7_byteAt
  rw [if_neg (nI_pos (by omega)), B.2.1]
  by_cases h : i < len
  · rw [if_neg (nI_ge h (by omega)), li 2000, if_pos (nI_lt' (by omega) (by omega)), ag_n (by omega) (by omega), sb, (B.2.2 i h).1, if_pos h]
  · rw [if_pos (nI_le (by omega) (by omega)), if_neg h]
theorem r_byte (B : BM b len M) {i : Nat} (hi : i < 4200) : f_X12_byteAt (nI i) M = some (if i < len then nI (b i) else 0) := by
  have hl := B.1
  unfold f_X12_byteAt
  rw [B.2.1]
  by_cases h : i < len
  · rw [if_neg (nI_ge h (by omega)), ag_n (by omega) (by omega), sb, (B.2.2 i h).1, if_pos h]
  · rw [if_pos (nI_le (by omega) (by omega)), if_neg h]
theorem c_lett {i : Nat} (hb : i < len → b i < 256) {x : Int32} (hx : x = -1 ∨ x = 0) : f_X8_isLetter (if i < len then nI (b i) else x) = some (if isLt b len i then 1 else 0) ∧ f_X12_isLetter (if i < len then nI (b i) else x) = some (if isLt b len i then 1 else 0) := by
  have e : f_X8_isLetter = f_X12_isLetter := rfl
  rw [e]
  have : f_X12_isLetter (if i < len then nI (b i) else x) = some (if isLt b len i then 1 else 0) := by
    unfold isLt
    by_cases h : i < len
    · have h2 := hb h
      rw [if_pos h, decide_eq_true h, Bool.true_and]
      unfold f_X12_isLetter
      rw [li 97, li 122]
      by_cases h3 : b i < 97
      · rw [if_pos (nI_lt' h3 (by omega)), decide_eq_false (show ¬ 97 ≤ b i by omega)]; rfl
      · rw [if_neg (nI_nlt' (nI_le (by omega) (by omega))), decide_eq_true (show 97 ≤ b i by omega)]
        by_cases h4 : 122 < b i
        · rw [if_pos (nI_lt' h4 (by omega)), decide_eq_false (show ¬ b i ≤ 122 by omega)]; rfl
        · rw [if_neg (nI_nlt' (nI_le (by omega) (by omega))), decide_eq_true (show b i ≤ 122 by omega)]; rfl
    · rw [if_neg h, decide_eq_false h]
      rcases hx with rfl | rfl <;> rfl
  exact ⟨this, this⟩
theorem c_digi {i : Nat} (hb : i < len → b i < 256) {x : Int32} (hx : x = -1 ∨ x = 0) : f_X8_isDigit (if i < len then nI (b i) else x) = some (if isDg b len i then 1 else 0) ∧ f_X12_isDigit (if i < len then nI (b i) else x) = some (if isDg b len i then 1 else 0) := by
  have e : f_X8_isDigit = f_X12_isDigit := rfl
  rw [e]
  have : f_X12_isDigit (if i < len then nI (b i) else x) = some (if isDg b len i then 1 else 0) := by
    unfold isDg
    by_cases h : i < len
    · have h2 := hb h
      rw [if_pos h, decide_eq_true h, Bool.true_and]
      unfold f_X12_isDigit
      rw [li 48, li 57]
      by_cases h3 : b i < 48
      · rw [if_pos (nI_lt' h3 (by omega)), decide_eq_false (show ¬ 48 ≤ b i by omega)]; rfl
      · rw [if_neg (nI_nlt' (nI_le (by omega) (by omega))), decide_eq_true (show 48 ≤ b i by omega)]
        by_cases h4 : 57 < b i
        · rw [if_pos (nI_lt' h4 (by omega)), decide_eq_false (show ¬ b i ≤ 57 by omega)]; rfl
        · rw [if_neg (nI_nlt' (nI_le (by omega) (by omega))), decide_eq_true (show b i ≤ 57 by omega)]; rfl
    · rw [if_neg h, decide_eq_false h]
      rcases hx with rfl | rfl <;> rfl
  exact ⟨this, this⟩
theorem c_blan {i : Nat} (hb : i < len → b i < 256) : f_X8_isBlank (if i < len then nI (b i) else -1) = some (if isBl b len i then 1 else 0) := by
  unfold isBl
  by_cases h : i < len
  · have h2 := hb h
    rw [if_pos h, decide_eq_true h, Bool.true_and]
    have : ∀ c, c < 256 → f_X8_isBlank (nI c) = some (if (c == 9 || c == 10 || c == 13 || c == 32) then 1 else 0) := by decide +kernel
    exact this _ h2
  · rw [if_neg h, decide_eq_false h]
    rfl
theorem c_behind (B : BC b len M) {i : Nat} (hi : i ≤ len) : f_X8_behindBlanks (nI i) M = some (nI (bkN b len i)) := by
  have hl := B.1
  obtain ⟨k1, k2, k3⟩ := bk_ok (b := b) hl hi
  obtain ⟨a, e, q⟩ := loopX (fun fu y (_ : Unit) => f_X8_behindBlanks_L2 fu (nI y) M) (fun y _ => i ≤ y ∧ y ≤ len ∧ ∀ j, i ≤ j → j < y → isBl b len j = true) (fun a => a = nI (bkN b len i)) len (fun fu s hP => by
      refine ⟨nI len, ?_, ?_⟩
      · show f_X8_behindBlanks_L2 (fu + 1) _ _ = _
        rw [f_X8_behindBlanks_L2, B.2.1, if_pos (nI_le (Nat.le_refl _) (by omega))]
      · exact congrArg nI (sk_u (p := isBl b len) hP.1 k3 hP.2.2 (lt_len len (Nat.le_refl _)).2.2 (fun j a b => sk_all _ j a b) k1)) (fun fu y s hy hP => by
      show (∃ a, f_X8_behindBlanks_L2 (fu + 1) _ _ = some a ∧ _) ∨ ∃ s' : Unit, f_X8_behindBlanks_L2 (fu + 1) _ _ = f_X8_behindBlanks_L2 fu _ _ ∧ _
      rw [f_X8_behindBlanks_L2, B.2.1, if_neg (nI_ge hy (by omega)), c_byte B (by omega), sb, c_blan (fun h => (B.2.2 y h).2), sb]
      cases hb : isBl b len y
      · left
        refine ⟨nI y, by rw [if_neg Bool.false_ne_true, if_pos rfl], ?_⟩
        rw [sk_u (p := isBl b len) hP.1 k3 hP.2.2 hb (fun j a b => sk_all _ j a b) k1]
      · right
        refine ⟨(), by rw [if_pos rfl, if_neg ne10, lt_def, nI_1], by omega, by omega, fun j j1 j2 => ?_⟩
        by_cases e : j = y
        · rw [e]; exact hb
        · exact hP.2.2 j j1 (by omega)) (len - i) i FU () (by omega) (by show len - i < 1000000; omega) ⟨Nat.le_refl _, hi, fun j a b => absurd b (by omega)⟩
  unfold f_X8_behindBlanks
  rw [e, sb, q]
end TOC

-- 20.base: pure: small words on numbers and on the functions' own words
theorem li (n : Nat) : (OfNat.ofNat n : Int32) = nI n := rfl
theorem ag_n {M : Mem} {id n i : Nat} (hi : i < n) (hn : n < 100000) : ag M id n (nI i) = some (M.1 id i) := by
  have h := vp_in_nI hi (by omega : n < 2 ^ 31)
  unfold ag
  rw [if_neg h, nI_clamp (by omega)]
theorem aj_n {M : Mem} {id n i : Nat} (hi : i < n) (hn : n < 100000) : aj M id n (nI i) = some (M.2.1 id i) := by
  have h := vp_in_nI hi (by omega : n < 2 ^ 31)
  unfold aj
  rw [if_neg h, nI_clamp (by omega)]
theorem pg_n {M : Mem} {id n i : Nat} {x : Int32} (hi : i < n) (hn : n < 100000) : pg M id n (nI i) x = some (sI M id i x) := by
  have h := vp_in_nI hi (by omega : n < 2 ^ 31)
  unfold pg
  rw [if_neg h, nI_clamp (by omega)]
theorem pb_n {M : Mem} {id n i : Nat} {x : Int32} (hi : i < n) (hn : n < 100000) : pb M id n (nI i) x = some (sI M id i (vp_nar .byte x)) := by
  have h := vp_in_nI hi (by omega : n < 2 ^ 31)
  unfold pb
  rw [if_neg h, nI_clamp (by omega)]
theorem pz_n {M : Mem} {id n i : Nat} {x : Int32} (hi : i < n) (hn : n < 100000) : pz M id n (nI i) x = some (sI M id i (vp_nar .boolean x)) := by
  have h := vp_in_nI hi (by omega : n < 2 ^ 31)
  unfold pz
  rw [if_neg h, nI_clamp (by omega)]
theorem pj_n {M : Mem} {id n i : Nat} {x : Int64} (hi : i < n) (hn : n < 100000) : pj M id n (nI i) x = some (sJ M id i x) := by
  have h := vp_in_nI hi (by omega : n < 2 ^ 31)
  unfold pj
  rw [if_neg h, nI_clamp (by omega)]
theorem cp_n {M : Mem} {a na b nb sp dp n : Nat} (h1 : sp + n ≤ na) (h2 : dp + n ≤ nb) (ha : na < 100000) (hb : nb < 100000) : cp M a na b nb (nI sp) (nI dp) (nI n) = some (cpM M a b sp dp n) := by
  unfold cp
  rw [nI_clamp (by omega : sp < 2 ^ 31), nI_clamp (by omega : dp < 2 ^ 31), nI_clamp (by omega : n < 2 ^ 31), if_neg]
  intro h
  rcases h with h | h | h | h | h
  · exact nI_pos (by omega) h
  · exact nI_pos (by omega) h
  · exact nI_pos (by omega) h
  · omega
  · omega
theorem rT_n {M : Mem} {id k t : Nat} (h : M.2.2 id k = some t) (ht : isT t) : rT M id k = some t := by
  unfold rT
  rw [h]
  exact if_pos ht
theorem dv_n {a b : Nat} (ha : a < 2 ^ 31) (h0 : 0 < b) (hb : b < 2 ^ 31) : dv (nI a) (nI b) = some (nI (a / b)) := by
  unfold dv
  rw [if_neg (nI_ne0 h0 hb), pk_div ha h0 hb]
theorem rm_n {a b : Nat} (ha : a < 2 ^ 31) (h0 : 0 < b) (hb : b < 2 ^ 31) : rm (nI a) (nI b) = some (nI (a % b)) := by
  unfold rm
  rw [if_neg (nI_ne0 h0 hb), pk_rem ha h0 hb]
theorem lt_def {α β : Type} (a : α) (f : α → β) : lt a f = f a := rfl
theorem zc_0 {α : Type} {k : Option α} : zc 0 k = k := rfl
theorem zc_1 {α : Type} {k : Option α} : zc 1 k = k := rfl
theorem sb {α β : Type} (a : α) (f : α → Option β) : (some a).bind f = f a := rfl
-- memory
theorem sI1 (M : Mem) (a i : Nat) (x : Int32) (b j : Nat) : (sI M a i x).1 b j = if b = a ∧ j = i then x else M.1 b j := by
  unfold sI upd
  by_cases h : b = a
  · subst h
    by_cases h2 : j = i <;> simp [h2]
  · simp [h]
theorem sI_same {M : Mem} {a i : Nat} {x : Int32} : (sI M a i x).1 a i = x := by rw [sI1, if_pos ⟨rfl, rfl⟩]
theorem sI_cell {M : Mem} {a i b : Nat} {x : Int32} (h : b ≠ a) : (sI M a i x).1 b = M.1 b := by
  funext j
  rw [sI1, if_neg (fun z => h z.1)]
theorem sI_ix {M : Mem} {a i j : Nat} {x : Int32} (h : j ≠ i) : (sI M a i x).1 a j = M.1 a j := by rw [sI1, if_neg (fun z => h z.2)]
theorem sI_2 {M : Mem} {a i : Nat} {x : Int32} : (sI M a i x).2 = M.2 := rfl
theorem cp1 (M : Mem) (a b sp dp n c j : Nat) : (cpM M a b sp dp n).1 c j = if c = b ∧ dp ≤ j ∧ j < dp + n then M.1 a (sp + (j - dp)) else M.1 c j := by
  unfold cpM va_cpy
  by_cases h : c = b
  · subst h
    by_cases h2 : dp ≤ j ∧ j < dp + n <;> simp [h2]
  · simp [h]
theorem cp_2 {M : Mem} {a b sp dp n : Nat} : (cpM M a b sp dp n).2 = M.2 := rfl
theorem cp_cell {M : Mem} {a b sp dp n c : Nat} (h : c ≠ b) : (cpM M a b sp dp n).1 c = M.1 c := by
  funext j
  rw [cp1, if_neg (fun z => h z.1)]
-- an argument of a call: in range or not
theorem ar_in (x : Int32) {n : Nat} (hn : n < 100000) : (x < 0 ∨ nI n ≤ x) ∨ ∃ j : Nat, j < n ∧ x = nI j := by
  rcases pk_ix x (by omega : n < 2 ^ 31) with h | h | h
  · exact Or.inl (Or.inl h)
  · exact Or.inl (Or.inr h)
  · exact Or.inr h
theorem nI_inj {a b : Nat} (ha : a < 2 ^ 31) (hb : b < 2 ^ 31) (h : nI a = nI b) : a = b := (nI_eq ha hb).mp h
-- folds
def itr {α : Type} (f : Nat → α → α) : Nat → α → α
  | 0, a => a
  | n + 1, a => f n (itr f n a)
theorem itr_s {α : Type} (f : Nat → α → α) (n : Nat) (a : α) : itr f (n + 1) a = f n (itr f n a) := rfl
theorem itr_cong {α : Type} {f g : Nat → α → α} : ∀ {n : Nat} {a : α}, (∀ k, k < n → ∀ x, f k x = g k x) → itr f n a = itr g n a
  | 0, _, _ => rfl
  | n + 1, a, h => by rw [itr_s, itr_s, itr_cong (fun k hk => h k (by omega)), h n (by omega)]
def sumN (f : Nat → Nat) (n : Nat) : Nat := itr (fun k a => a + f k) n 0
theorem sumN_s (f : Nat → Nat) (n : Nat) : sumN f (n + 1) = sumN f n + f n := rfl
theorem sumN_le {f : Nat → Nat} {b : Nat} : ∀ {n : Nat}, (∀ k, k < n → f k ≤ b) → sumN f n ≤ n * b
  | 0, _ => Nat.zero_le _
  | n + 1, h => by
    have h1 := sumN_le (f := f) (b := b) (n := n) (fun k hk => h k (by omega))
    have h2 := h n (by omega)
    rw [sumN_s, Nat.succ_mul]
    omega
theorem sumN_cong {f g : Nat → Nat} {n : Nat} (h : ∀ k, k < n → f k = g k) : sumN f n = sumN g n := itr_cong (fun k hk x => by rw [h k hk])
/-- bits of a row of yes and no -/
def mskN (p : Nat → Bool) (n : Nat) : Nat := sumN (fun k => if p k then 2 ^ k else 0) n
theorem mskN_s (p : Nat → Bool) (n : Nat) : mskN p (n + 1) = mskN p n + if p n then 2 ^ n else 0 := rfl
theorem mskN_lt (p : Nat → Bool) : ∀ n, mskN p n < 2 ^ n
  | 0 => Nat.zero_lt_one
  | n + 1 => by
    have h := mskN_lt p n
    rw [mskN_s, Nat.pow_succ]
    split <;> omega
theorem mskN_bit (p : Nat → Bool) : ∀ n j, (mskN p n).testBit j = (decide (j < n) && p j)
  | 0, j => by simp [mskN, sumN, itr]
  | n + 1, j => by
    have h := mskN_bit p n j
    have hl := mskN_lt p n
    rw [mskN_s]
    by_cases hp : p n
    · rw [if_pos hp, Nat.add_comm]
      by_cases hj : j = n
      · subst hj
        rw [Nat.testBit_two_pow_add_eq, Nat.testBit_lt_two_pow hl]
        simp [hp]
      · by_cases hjn : j < n
        · rw [Nat.testBit_two_pow_add_gt hjn, h]
          simp [hjn, Nat.lt_succ_of_lt hjn]
        · have hgt : mskN p n < 2 ^ j := Nat.lt_of_lt_of_le hl (Nat.pow_le_pow_right (by decide) (by omega))
          have : 2 ^ n + mskN p n < 2 ^ j := by
            have h2 : 2 ^ (n + 1) ≤ 2 ^ j := Nat.pow_le_pow_right (by decide) (by omega)
            rw [Nat.pow_succ] at h2
            omega
          rw [Nat.testBit_lt_two_pow this]
          simp [show ¬ j < n + 1 by omega]
    · rw [if_neg hp, Nat.add_zero, h]
      by_cases hj : j = n
      · subst hj; simp [hp]
      · by_cases hjn : j < n
        · simp [hjn, Nat.lt_succ_of_lt hjn]
        · simp [hjn, show ¬ j < n + 1 by omega]
theorem mskN_cong {p q : Nat → Bool} {n : Nat} (h : ∀ k, k < n → p k = q k) : mskN p n = mskN q n := sumN_cong (fun k hk => by rw [h k hk])
-- bits of small numbers as ints
theorem sh1 {k : Nat} (hk : k < 31) : (1 : Int32) <<< (nI k &&& 31) = nI (2 ^ k) := by
  have : ∀ k, k < 31 → (1 : Int32) <<< (nI k &&& 31) = nI (2 ^ k) := by decide +kernel
  exact this k hk
theorem or_n (a b : Nat) : nI a ||| nI b = nI (a ||| b) := by
  apply Int32.toBitVec_inj.mp
  show BitVec.ofNat 32 a ||| BitVec.ofNat 32 b = BitVec.ofNat 32 (a ||| b)
  rw [BitVec.ofNat_or]
theorem and_n (a b : Nat) : nI a &&& nI b = nI (a &&& b) := by
  apply Int32.toBitVec_inj.mp
  show BitVec.ofNat 32 a &&& BitVec.ofNat 32 b = BitVec.ofNat 32 (a &&& b)
  rw [BitVec.ofNat_and]
theorem or_add {a k : Nat} (h : a < 2 ^ k) : a ||| 2 ^ k = a + 2 ^ k := by
  rw [Nat.or_comm, Nat.add_comm]
  have := Nat.two_pow_add_eq_or_of_lt h 1
  simpa using this.symm
theorem msk_or {p : Nat → Bool} {k : Nat} (hk : k < 31) : nI (mskN p k) ||| ((1 : Int32) <<< (nI k &&& 31)) = nI (mskN p k + 2 ^ k) := by
  rw [sh1 hk, or_n, or_add (mskN_lt p k)]
theorem shr_n {a k : Nat} (ha : a < 2 ^ 31) (hk : k < 31) : nI a >>> (nI k &&& 31) = nI (a / 2 ^ k) := by
  have h : ∀ k, k < 31 → ((nI k &&& 31).toBitVec.smod 32).toNat = k := by decide +kernel
  exact pk_shrN ha _ k (h k hk)
/-- bit k of a -/
theorem bit_n {a k : Nat} (ha : a < 2 ^ 31) (hk : k < 31) : (nI a >>> (nI k &&& 31)) &&& (1 : Int32) = if a.testBit k then 1 else 0 := by
  rw [shr_n ha hk, li 1, and_n, Nat.and_one_is_mod, Nat.testBit_eq_decide_div_mod_eq]
  rcases Nat.mod_two_eq_zero_or_one (a / 2 ^ k) with h | h <;> simp [h] <;> rfl
/-- a loop that counts up: its state behind y rounds is a function of y -/
theorem loopN {α : Type} (f : Nat → Nat → α) (out : α) (N : Nat) (hend : ∀ fu, f (fu + 1) N = out) (hstep : ∀ fu y, y < N → f (fu + 1) y = f fu (y + 1)) : ∀ k y fu, y + k = N → k < fu → f fu y = out
  | 0, y, fu, hy, hf => by
    obtain ⟨q, rfl⟩ : ∃ q, fu = q + 1 := ⟨fu - 1, by omega⟩
    rw [show y = N by omega]
    exact hend q
  | k + 1, y, fu, hy, hf => by
    obtain ⟨q, rfl⟩ : ∃ q, fu = q + 1 := ⟨fu - 1, by omega⟩
    rw [hstep q y (by omega)]
    exact loopN f out N hend hstep k (y + 1) q (by omega) (by omega)
theorem loop0 {α : Type} (f : Nat → Nat → α) (out : α) (N : Nat) (hN : N < 1000000) (hend : ∀ fu, f (fu + 1) N = out) (hstep : ∀ fu y, y < N → f (fu + 1) y = f fu (y + 1)) : f FU 0 = out := loopN f out N hend hstep N 0 FU (by omega) hN

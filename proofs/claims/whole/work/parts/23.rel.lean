-- 23.rel: pure: what holds between the class's cells and the reference's ahead of every call
/-- a night kept in a row by the class, by the reference -/
def RC (id off : Nat) (τ : Nat → Nat → Nat) (ρ : Nat → Nat) (M : Mem) : Prop := M.1 id off = nI (ρ 47) ∧ (0 < tC τ → M.1 id (off + 1) = nI (ρ 46)) ∧ M.1 id (off + 2) = nI (mskN (hmB ρ) 6) ∧ M.1 id (off + 3) = nI (mskN (rgB ρ) 6) ∧ (∀ y, y < tY τ → M.1 id (off + 4 + y) = nI (ρ y)) ∧ (∀ y, y < 6 → M.1 id (off + 10 + y) = nI (ρ (6 + y)) ∧ M.1 id (off + 16 + y) = nI (ρ (18 + y)) ∧ M.1 id (off + 22 + y) = nI (ρ (24 + y))) ∧ ∀ w, w < 5 → M.1 id (off + 28 + w) = nI (ρ (36 + w)) ∧ M.1 id (off + 33 + w) = nI (ρ (41 + w))
def RR (id off : Nat) (τ : Nat → Nat → Nat) (ρ : Nat → Nat) (M : Mem) : Prop := (∀ k, k < 48 → k ≠ 46 → M.1 id (off + k) = nI (ρ k)) ∧ (0 < tC τ → M.1 id (off + 46) = nI (ρ 46)) ∧ (tC τ = 0 → M.1 id (off + 46) = -2)
def PastR (τ : Nat → Nat → Nat) (M : Mem) : Prop := ∃ k x : Nat, k ≤ 40 ∧ x < 40 ∧ M.1 57 0 = nI k ∧ M.1 57 4 = nI x ∧ M.1 67 60 = nI k ∧ ∀ j, j < k → ∃ ρ, wfN τ ρ ∧ RC 58 (38 * ((x + 40 - k + j) % 40)) τ ρ M ∧ RR 108 (48 * j) τ ρ M
def SlotR (τ : Nat → Nat → Nat) (M : Mem) : Prop := ∃ p : Nat → Bool, M.1 57 1 = nI (mskN p 3) ∧ ∀ s, s < 3 → M.1 116 s = (if p s then 1 else 0) ∧ (p s = true → ∃ ρ, wfN τ ρ ∧ RC 59 (38 * s) τ ρ M ∧ RR 117 (48 * s) τ ρ M)
def KnownR (τ : Nat → Nat → Nat) (M : Mem) : Prop := ∃ k : Nat, k ≤ 20 ∧ M.1 53 0 = nI k ∧ M.1 67 66 = nI k ∧ ∀ i, i < k → ∃ y v b : Nat, y < tY τ ∧ v ≤ 999 ∧ b ≤ 1 ∧ M.1 54 i = nI y ∧ M.1 113 i = nI y ∧ M.1 55 i = nI v ∧ M.1 114 i = nI v ∧ M.1 56 i = nI b ∧ M.1 115 i = nI b
def TapeR (M : Mem) : Prop := ∃ l : Nat, l ≤ 2000 ∧ M.1 21 1 = nI l ∧ M.1 67 2 = nI l ∧ ∀ i, i < l → M.1 22 i = M.1 68 i
/-- a call of the class that asks: which cells it may have used as scratch -/
def FrC (S : List Nat) (M M' : Mem) : Prop := (∀ a, a ∉ S → M'.1 a = M.1 a) ∧ M'.2.1 = M.2.1 ∧ ∀ a, a ≠ 38 → M'.2.2 a = M.2.2 a
theorem FrC.rf {S : List Nat} {M : Mem} : FrC S M M := ⟨fun _ _ => rfl, rfl, fun _ _ => rfl⟩
theorem FrC.tr {S S2 : List Nat} {M M1 M2 : Mem} (h1 : FrC S M M1) (h2 : FrC S2 M1 M2) : FrC (S ++ S2) M M2 :=
  ⟨fun a ha => (h2.1 a (fun z => ha (List.mem_append_right _ z))).trans (h1.1 a (fun z => ha (List.mem_append_left _ z))), h2.2.1.trans h1.2.1, fun a h => (h2.2.2 a h).trans (h1.2.2 a h)⟩
theorem FrC.sub {S S2 : List Nat} {M M1 : Mem} (h1 : FrC S M M1) (h : ∀ a ∈ S, a ∈ S2) : FrC S2 M M1 := ⟨fun a ha => h1.1 a (fun z => ha (h a z)), h1.2⟩
theorem FrC.set {S : List Nat} {M : Mem} {a i : Nat} {x : Int32} (ha : a ∈ S) : FrC S M (sI M a i x) := ⟨fun b hb => sI_cell (fun z => hb (z ▸ ha)), rfl, fun _ _ => rfl⟩
theorem FrC.cpy {S : List Nat} {M : Mem} {a b sp dp n : Nat} (ha : b ∈ S) : FrC S M (cpM M a b sp dp n) := ⟨fun c hc => cp_cell (fun z => hc (z ▸ ha)), rfl, fun _ _ => rfl⟩
/-- as FrC, all refs as they were -/
def FrD (S : List Nat) (M M' : Mem) : Prop := (∀ a, a ∉ S → M'.1 a = M.1 a) ∧ M'.2 = M.2
theorem FrD.c {S : List Nat} {M M' : Mem} (h : FrD S M M') : FrC S M M' := ⟨h.1, by rw [h.2], fun _ _ => by rw [h.2]⟩
theorem FrD.rf {S : List Nat} {M : Mem} : FrD S M M := ⟨fun _ _ => rfl, rfl⟩
theorem FrD.tr {S : List Nat} {M M1 M2 : Mem} (h1 : FrD S M M1) (h2 : FrD S M1 M2) : FrD S M M2 := ⟨fun a ha => (h2.1 a ha).trans (h1.1 a ha), h2.2.trans h1.2⟩
theorem FrD.sub {S S2 : List Nat} {M M1 : Mem} (h1 : FrD S M M1) (h : ∀ a ∈ S, a ∈ S2) : FrD S2 M M1 := ⟨fun a ha => h1.1 a (fun z => ha (h a z)), h1.2⟩
theorem FrD.set {S : List Nat} {M : Mem} {a i : Nat} {x : Int32} (ha : a ∈ S) : FrD S M (sI M a i x) := ⟨fun b hb => sI_cell (fun z => hb (z ▸ ha)), rfl⟩
/-- as FrM, of 67 the word 52 alone may change -/
def FrN (S : List Nat) (M M' : Mem) : Prop := (∀ a, a ∉ S → a ≠ 67 → M'.1 a = M.1 a) ∧ (∀ k, k ≠ 52 → M'.1 67 k = M.1 67 k) ∧ M'.2 = M.2
theorem FrN.m {S : List Nat} {M M' : Mem} (h : FrN S M M') : FrM S M M' := ⟨h.1, fun k a _ _ => h.2.1 k a, h.2.2⟩
theorem FrN.rf {S : List Nat} {M : Mem} : FrN S M M := ⟨fun _ _ _ => rfl, fun _ _ => rfl, rfl⟩
theorem FrN.tr {S : List Nat} {M M1 M2 : Mem} (h1 : FrN S M M1) (h2 : FrN S M1 M2) : FrN S M M2 := ⟨fun a ha h => (h2.1 a ha h).trans (h1.1 a ha h), fun k a => (h2.2.1 k a).trans (h1.2.1 k a), h2.2.2.trans h1.2.2⟩
theorem FrN.sub {S S2 : List Nat} {M M1 : Mem} (h1 : FrN S M M1) (h : ∀ a ∈ S, a ∈ S2) : FrN S2 M M1 := ⟨fun a ha h67 => h1.1 a (fun z => ha (h a z)) h67, h1.2⟩
theorem FrN.set {S : List Nat} {M : Mem} {a i : Nat} {x : Int32} (ha : a ∈ S) (h67 : a ≠ 67) : FrN S M (sI M a i x) := ⟨fun b hb _ => sI_cell (fun z => hb (z ▸ ha)), fun k _ => by rw [sI_cell (Ne.symm h67)], rfl⟩
-- the laws: what each tells, of its nine variables
def LawF (F : Nat → (Nat → Int32) → Int32) : Prop := ∀ k u u', (∀ i, i < 9 → u i = u' i) → F k u = F k u'
def LawC (t : Nat) (F : Nat → (Nat → Int32) → Int32) (M : Mem) : Prop := ∀ M' : Mem, M'.1 t = M.1 t → M'.1 (t + 8) = M.1 (t + 8) → M'.1 (t + 9) = M.1 (t + 9) → ∀ lw, isL lw → ∀ k, k < 4 → ∃ M'', f_X2_run lw t (M'.1 (t + 8) k) M' = some (F k (M'.1 (lw + 1)), M'') ∧ FrD [lw + 2] M' M''
/-- what of the rows of laws belongs to side v -/
def lwR (v a i : Nat) : Prop := ((a = 91 ∨ a = 92) ∧ 4 * v ≤ i ∧ i < 4 * v + 4) ∨ ((93 ≤ a ∧ a ≤ 97) ∧ 130 * v ≤ i ∧ i < 130 * v + 130) ∨ ((a = 98 ∨ a = 99) ∧ 420 * v ≤ i ∧ i < 420 * v + 420)
def LawM (F : Nat → (Nat → Int32) → Int32) (M : Mem) : Prop := ∃ v : Nat, v ≤ 1 ∧ M.1 67 18 = nI v ∧ ∀ M' : Mem, M'.1 67 18 = nI v → (∀ a i, lwR v a i → M'.1 a i = M.1 a i) → ∀ k, k < 4 → ∀ pl : Int32, pl = (if k = 0 then M'.1 101 0 else if k = 1 then 1 else 0) → ∃ M'', f_X12_lawTells (nI k) pl M' = some (F k (M'.1 101), M'') ∧ FrN [102] M' M''
theorem LawM.use {F : Nat → (Nat → Int32) → Int32} {M : Mem} (h : LawM F M) (M' : Mem) (e18 : M'.1 67 18 = M.1 67 18) (e : ∀ a, 91 ≤ a → a ≤ 99 → M'.1 a = M.1 a) : ∀ k, k < 4 → ∀ pl : Int32, pl = (if k = 0 then M'.1 101 0 else if k = 1 then 1 else 0) → ∃ M'', f_X12_lawTells (nI k) pl M' = some (F k (M'.1 101), M'') ∧ FrN [102] M' M'' := by
  obtain ⟨v, hv, h18, h⟩ := h
  exact h M' (e18.trans h18) (fun a i r => by rw [e a (by unfold lwR at r; omega) (by unfold lwR at r; omega)])
theorem LawM.mv {F : Nat → (Nat → Int32) → Int32} {M M' : Mem} (h : LawM F M) (e18 : M'.1 67 18 = M.1 67 18) (e : ∀ a, 91 ≤ a → a ≤ 99 → M'.1 a = M.1 a) : LawM F M' := by
  obtain ⟨v, hv, h18, h⟩ := h
  refine ⟨v, hv, e18.trans h18, fun M2 a1 a2 => h M2 a1 (fun a i r => (a2 a i r).trans ?_)⟩
  rw [e a (by unfold lwR at r; omega) (by unfold lwR at r; omega)]
-- BEST: where the young ones stand so that most streets are lit, the first of alike ones
def plN (ρ : Nat → Nat) (w : Nat → Nat) (k : Nat) : Nat := if k < 6 ∧ ρ (12 + k) = 0 then w k else ρ k
def cntL (τ : Nat → Nat → Nat) (ρ : Nat → Nat) (w : Nat → Nat) : Nat := sumN (fun s => if litB τ (plN ρ w) s then 1 else 0) (tS τ)
def okW2 (τ : Nat → Nat → Nat) (ρ : Nat → Nat) (w : Nat → Nat) : Prop := ∀ y, y < tY τ → ρ (12 + y) = 0 → w y < tC τ
/-- w is not behind w' in the order of the young ones that are out -/
def lexW (τ : Nat → Nat → Nat) (ρ : Nat → Nat) (w w' : Nat → Nat) : Prop := (∀ y, y < tY τ → ρ (12 + y) = 0 → w y = w' y) ∨ ∃ j, j < tY τ ∧ ρ (12 + j) = 0 ∧ w j < w' j ∧ ∀ y, y < j → ρ (12 + y) = 0 → w y = w' y
def isBest (τ : Nat → Nat → Nat) (ρ : Nat → Nat) (b : Nat) (w : Nat → Nat) : Prop := okW2 τ ρ w ∧ cntL τ ρ w = b ∧ ∀ w', okW2 τ ρ w' → cntL τ ρ w' ≤ b ∧ (cntL τ ρ w' = b → lexW τ ρ w w')
def PostR (τ : Nat → Nat → Nat) (ρ : Nat → Nat) (M : Mem) : Prop := M.1 48 2 = 1 ∨ (M.1 48 2 = 0 ∧ ∃ (b : Nat) (w : Nat → Nat), isBest τ ρ b w ∧ M.1 48 1 = nI b ∧ ∀ y, y < tY τ → ρ (12 + y) = 0 → M.1 49 y = nI (w y))
def KeyR (M : Mem) : Prop := (∀ k, k < 23 → M.2.1 28 k = M.2.1 74 k) ∧ ∀ i j, i < j → j < 23 → M.2.1 74 i ≠ M.2.1 74 j
def RelP (t v : Nat) (τ : Nat → Nat → Nat) (ρ : Nat → Nat) (F : Nat → (Nat → Int32) → Int32) (M : Mem) : Prop :=
  wfT τ ∧ wfN τ ρ ∧ TC t τ M ∧ TR v τ M ∧ NC 60 t τ ρ M ∧ NR 103 τ ρ M ∧ (M.2.2 0 9 = some t ∧ M.2.2 0 10 = some (12 - t)) ∧ PastR τ M ∧ SlotR τ M ∧ KnownR τ M ∧ TapeR M ∧ M.1 0 11 = M.1 67 17 ∧ (LawF F ∧ LawC t F M ∧ LawM F M) ∧ PostR τ ρ M ∧ KeyR M
def Rel (M : Mem) : Prop := ∃ t v τ ρ F, RelP t v τ ρ F M
-- the class's cells that last (towns, tape, reader's key words, posts' finds, known, past, now), the reference's
def keepA : List Nat := [0, 1, 2, 3, 4, 5, 6, 7, 8, 9, 10, 11, 12, 13, 14, 15, 16, 17, 18, 19, 20, 21, 22, 48, 49, 53, 54, 55, 56, 57, 58, 59, 60, 61, 62, 63, 64, 65, 66, 68, 77, 78, 79, 80, 81, 82, 83, 84, 86, 89, 90, 91, 92, 93, 94, 95, 96, 97, 98, 99, 103, 108, 113, 114, 115, 116, 117]
/-- all that lasts is as it was -/
def Kp (M M' : Mem) : Prop := (∀ a ∈ keepA, M'.1 a = M.1 a) ∧ (∀ k, k ≠ 52 → k ≠ 55 → k ≠ 56 → M'.1 67 k = M.1 67 k) ∧ M'.2.1 = M.2.1 ∧ (∀ a, a ≠ 38 → M'.2.2 a = M.2.2 a)
theorem Kp.rf {M : Mem} : Kp M M := ⟨fun _ _ => rfl, fun _ _ _ _ => rfl, rfl, fun _ _ => rfl⟩
theorem Kp.tr {M M1 M2 : Mem} (h1 : Kp M M1) (h2 : Kp M1 M2) : Kp M M2 := ⟨fun a h => (h2.1 a h).trans (h1.1 a h), fun k a b c => (h2.2.1 k a b c).trans (h1.2.1 k a b c), h2.2.2.1.trans h1.2.2.1, fun a h => (h2.2.2.2 a h).trans (h1.2.2.2 a h)⟩
theorem FrM.kp {S : List Nat} {M M' : Mem} (h : FrM S M M') (hS : S.all (fun a => !keepA.contains a) = true) : Kp M M' := by
  refine ⟨fun a ha => h.1 a (fun z => ?_) (by intro e; subst e; revert ha; decide), h.2.1, by rw [h.2.2], fun a _ => by rw [h.2.2]⟩
  have h1 := List.all_eq_true.mp hS a z
  simp only [Bool.not_eq_true', List.contains_eq_mem, decide_eq_false_iff_not] at h1
  exact h1 ha
theorem FrC.kp {S : List Nat} {M M' : Mem} (h : FrC S M M') (hS : S.all (fun a => !(67 :: keepA).contains a) = true) : Kp M M' := by
  have key : ∀ a ∈ 67 :: keepA, a ∉ S := fun a ha z => by
    have h1 := List.all_eq_true.mp hS a z
    simp only [Bool.not_eq_true', List.contains_eq_mem, decide_eq_false_iff_not] at h1
    exact h1 ha
  exact ⟨fun a ha => h.1 a (key a (List.mem_cons_of_mem _ ha)), fun k _ _ _ => by rw [h.1 67 (key 67 List.mem_cons_self)], h.2.1, h.2.2⟩
theorem isT_in {t : Nat} (h : isT t) : ∀ k, k < 10 → t + k ∈ keepA := by
  rcases h with rfl | rfl <;> decide
theorem RC.kp {id off : Nat} {τ : Nat → Nat → Nat} {ρ : Nat → Nat} {M M' : Mem} (h : RC id off τ ρ M) (e : M'.1 id = M.1 id) : RC id off τ ρ M' := by
  unfold RC at h ⊢
  rw [e]
  exact h
theorem RR.kp {id off : Nat} {τ : Nat → Nat → Nat} {ρ : Nat → Nat} {M M' : Mem} (h : RR id off τ ρ M) (e : M'.1 id = M.1 id) : RR id off τ ρ M' := by
  unfold RR at h ⊢
  rw [e]
  exact h
theorem TC.kp {t : Nat} {τ : Nat → Nat → Nat} {M M' : Mem} (h : TC t τ M) (k : Kp M M') : TC t τ M' := by
  have e : ∀ j, j < 10 → M'.1 (t + j) = M.1 (t + j) := fun j hj => k.1 _ (isT_in h.1 j hj)
  have e0 : M'.1 t = M.1 t := e 0 (by decide)
  unfold TC at h ⊢
  rw [e0, e 1 (by decide), e 2 (by decide), e 3 (by decide), e 4 (by decide), e 5 (by decide)]
  exact h
theorem NC.kp {t : Nat} {τ : Nat → Nat → Nat} {ρ : Nat → Nat} {M M' : Mem} (h : NC 60 t τ ρ M) (k : Kp M M') : NC 60 t τ ρ M' := by
  unfold NC at h ⊢
  rw [k.1 60 (by decide), k.1 (60 + 1) (by decide), k.1 (60 + 2) (by decide), k.1 (60 + 3) (by decide), k.1 (60 + 4) (by decide), k.1 (60 + 5) (by decide), k.1 (60 + 6) (by decide), k.2.2.2 60 (by decide)]
  exact h
theorem TR.kp {v : Nat} {τ : Nat → Nat → Nat} {M M' : Mem} (h : TR v τ M) (k : Kp M M') : TR v τ M' := by
  unfold TR at h ⊢
  rw [k.2.1 18 (by decide) (by decide) (by decide), k.1 77 (by decide), k.1 78 (by decide), k.1 79 (by decide), k.1 80 (by decide), k.1 81 (by decide), k.1 82 (by decide), k.1 83 (by decide), k.1 84 (by decide), k.1 86 (by decide), k.1 89 (by decide), k.1 90 (by decide)]
  exact h
theorem PastR.kp {τ : Nat → Nat → Nat} {M M' : Mem} (h : PastR τ M) (k : Kp M M') : PastR τ M' := by
  obtain ⟨q, x, h1, h2, h3, h4, h5, h6⟩ := h
  refine ⟨q, x, h1, h2, by rw [k.1 57 (by decide)]; exact h3, by rw [k.1 57 (by decide)]; exact h4, by rw [k.2.1 60 (by decide) (by decide) (by decide)]; exact h5, fun j hj => ?_⟩
  obtain ⟨ρ, a1, a2, a3⟩ := h6 j hj
  exact ⟨ρ, a1, a2.kp (k.1 58 (by decide)), a3.kp (k.1 108 (by decide))⟩
theorem SlotR.kp {τ : Nat → Nat → Nat} {M M' : Mem} (h : SlotR τ M) (k : Kp M M') : SlotR τ M' := by
  obtain ⟨p, h1, h2⟩ := h
  refine ⟨p, by rw [k.1 57 (by decide)]; exact h1, fun s hs => ⟨by rw [k.1 116 (by decide)]; exact (h2 s hs).1, fun hp => ?_⟩⟩
  obtain ⟨ρ, a1, a2, a3⟩ := (h2 s hs).2 hp
  exact ⟨ρ, a1, a2.kp (k.1 59 (by decide)), a3.kp (k.1 117 (by decide))⟩
theorem Rel.kp {M M' : Mem} (h : Rel M) (k : Kp M M') : Rel M' := by
  obtain ⟨t, v, τ, ρ, F, h1, h2, h3, h4, h5, h6, h7, h8, h9, h10, h11, h12, h13, h14, h15⟩ := h
  refine ⟨t, v, τ, ρ, F, h1, h2, h3.kp k, h4.kp k, h5.kp k, ?_, ?_, h8.kp k, h9.kp k, ?_, ?_, ?_, ⟨h13.1, ?_, ?_⟩, ?_, ?_⟩
  · unfold NR at h6 ⊢
    rw [k.1 103 (by decide)]
    exact h6
  · rw [k.2.2.2 0 (by decide)]
    exact h7
  · unfold KnownR at h10 ⊢
    rw [k.1 53 (by decide), k.1 54 (by decide), k.1 55 (by decide), k.1 56 (by decide), k.1 113 (by decide), k.1 114 (by decide), k.1 115 (by decide), k.2.1 66 (by decide) (by decide) (by decide)]
    exact h10
  · unfold TapeR at h11 ⊢
    rw [k.1 21 (by decide), k.1 22 (by decide), k.1 68 (by decide), k.2.1 2 (by decide) (by decide) (by decide)]
    exact h11
  · rw [k.1 0 (by decide), k.2.1 17 (by decide) (by decide) (by decide)]
    exact h12
  · have e : ∀ j, j < 10 → M'.1 (t + j) = M.1 (t + j) := fun j hj => k.1 _ (isT_in h3.1 j hj)
    intro M2 a1 a2 a3
    exact h13.2.1 M2 (a1.trans (e 0 (by decide))) (a2.trans (e 8 (by decide))) (a3.trans (e 9 (by decide)))
  · refine h13.2.2.mv (k.2.1 18 (by decide) (by decide) (by decide)) (fun a b c => k.1 a ?_)
    have hh : a = 91 ∨ a = 92 ∨ a = 93 ∨ a = 94 ∨ a = 95 ∨ a = 96 ∨ a = 97 ∨ a = 98 ∨ a = 99 := by omega
    rcases hh with rfl | rfl | rfl | rfl | rfl | rfl | rfl | rfl | rfl <;> decide
  · unfold PostR at h14 ⊢
    rw [k.1 48 (by decide), k.1 49 (by decide)]
    exact h14
  · unfold KeyR at h15 ⊢
    rw [k.2.2.1]
    exact h15

-- 25.mut: pure: what a call that changes something leaves; tape, forget, tell, hold
def KpX (X XF : List Nat) (M M' : Mem) : Prop := (∀ a ∈ keepA, a ∉ X → M'.1 a = M.1 a) ∧ (∀ k, k ≠ 52 → k ≠ 55 → k ≠ 56 → k ∉ XF → M'.1 67 k = M.1 67 k) ∧ M'.2.1 = M.2.1 ∧ (∀ a, a ≠ 38 → M'.2.2 a = M.2.2 a)
theorem Kp.x {X XF : List Nat} {M M' : Mem} (k : Kp M M') : KpX X XF M M' := ⟨fun a h _ => k.1 a h, fun q a b c _ => k.2.1 q a b c, k.2.2⟩
theorem KpX.tr {X XF : List Nat} {M M1 M2 : Mem} (h1 : KpX X XF M M1) (h2 : KpX X XF M1 M2) : KpX X XF M M2 := ⟨fun a h x => (h2.1 a h x).trans (h1.1 a h x), fun k a b c d => (h2.2.1 k a b c d).trans (h1.2.1 k a b c d), h2.2.2.1.trans h1.2.2.1, fun a h => (h2.2.2.2 a h).trans (h1.2.2.2 a h)⟩
theorem KpX.set {X XF : List Nat} {M : Mem} {a i : Nat} {x : Int32} (ha : a ∈ X) (h67 : a ≠ 67) : KpX X XF M (sI M a i x) := ⟨fun b _ hb => sI_cell (fun z => hb (z ▸ ha)), fun k _ _ _ _ => by rw [sI_cell (Ne.symm h67)], rfl, fun _ _ => rfl⟩
theorem KpX.fld {X XF : List Nat} {M : Mem} {i : Nat} {x : Int32} (hi : i ∈ XF) : KpX X XF M (sI M 67 i x) := ⟨fun b hb _ => sI_cell (by intro e; subst e; revert hb; decide), fun k _ _ _ hk => sI_ix (fun z => hk (z ▸ hi)), rfl, fun _ _ => rfl⟩
theorem KpX.cpy {X XF : List Nat} {M : Mem} {a b sp dp n : Nat} (ha : b ∈ X) (h67 : b ≠ 67) : KpX X XF M (cpM M a b sp dp n) := ⟨fun c _ hc => cp_cell (fun z => hc (z ▸ ha)), fun k _ _ _ _ => by rw [cp_cell (Ne.symm h67)], rfl, fun _ _ => rfl⟩
def townA : List Nat := [1, 2, 3, 4, 5, 6, 7, 8, 9, 10, 11, 12, 13, 14, 15, 16, 17, 18, 19, 20, 77, 78, 79, 80, 81, 82, 83, 84, 86, 89, 90, 91, 92, 93, 94, 95, 96, 97, 98, 99]
theorem town_keep : ∀ a ∈ townA, a ∈ keepA := by decide
theorem isT_town {t : Nat} (h : isT t) : ∀ k, k < 10 → t + k ∈ townA := by
  rcases h with rfl | rfl <;> decide
theorem law_town : ∀ a, 91 ≤ a → a ≤ 99 → a ∈ townA := by
  intro a b c
  have hh : a = 91 ∨ a = 92 ∨ a = 93 ∨ a = 94 ∨ a = 95 ∨ a = 96 ∨ a = 97 ∨ a = 98 ∨ a = 99 := by omega
  rcases hh with rfl | rfl | rfl | rfl | rfl | rfl | rfl | rfl | rfl <;> decide
section KX
variable {X XF : List Nat} {t v : Nat} {τ : Nat → Nat → Nat} {ρ : Nat → Nat} {F : Nat → (Nat → Int32) → Int32} {M M' : Mem}
theorem TC.kx (h : TC t τ M) (k : KpX X XF M M') (hX : ∀ a ∈ townA, a ∉ X) : TC t τ M' := by
  have e : ∀ j, j < 10 → M'.1 (t + j) = M.1 (t + j) := fun j hj => k.1 _ (isT_in h.1 j hj) (hX _ (isT_town h.1 j hj))
  have e0 : M'.1 t = M.1 t := e 0 (by decide)
  unfold TC at h ⊢
  rw [e0, e 1 (by decide), e 2 (by decide), e 3 (by decide), e 4 (by decide), e 5 (by decide)]
  exact h
theorem TR.kx (h : TR v τ M) (k : KpX X XF M M') (hX : ∀ a ∈ townA, a ∉ X) (h18 : 18 ∉ XF) : TR v τ M' := by
  have e : ∀ a ∈ townA, M'.1 a = M.1 a := fun a ha => k.1 a (town_keep a ha) (hX a ha)
  unfold TR at h ⊢
  rw [k.2.1 18 (by decide) (by decide) (by decide) h18, e 77 (by decide), e 78 (by decide), e 79 (by decide), e 80 (by decide), e 81 (by decide), e 82 (by decide), e 83 (by decide), e 84 (by decide), e 86 (by decide), e 89 (by decide), e 90 (by decide)]
  exact h
theorem LawC.kx (h : LawC t F M) (hT : isT t) (k : KpX X XF M M') (hX : ∀ a ∈ townA, a ∉ X) : LawC t F M' := by
  have e : ∀ j, j < 10 → M'.1 (t + j) = M.1 (t + j) := fun j hj => k.1 _ (isT_in hT j hj) (hX _ (isT_town hT j hj))
  intro M2 a1 a2 a3
  exact h M2 (a1.trans (e 0 (by decide))) (a2.trans (e 8 (by decide))) (a3.trans (e 9 (by decide)))
theorem LawM.kx (h : LawM F M) (k : KpX X XF M M') (hX : ∀ a ∈ townA, a ∉ X) (h18 : 18 ∉ XF) : LawM F M' :=
  h.mv (k.2.1 18 (by decide) (by decide) (by decide) h18) (fun a b c => k.1 a (town_keep a (law_town a b c)) (hX a (law_town a b c)))
theorem NC.kx (h : NC 60 t τ ρ M) (k : KpX X XF M M') (hX : ∀ a ∈ [60, 61, 62, 63, 64, 65, 66], a ∉ X) : NC 60 t τ ρ M' := by
  unfold NC at h ⊢
  rw [k.1 60 (by decide) (hX _ (by decide)), k.1 (60 + 1) (by decide) (hX _ (by decide)), k.1 (60 + 2) (by decide) (hX _ (by decide)), k.1 (60 + 3) (by decide) (hX _ (by decide)), k.1 (60 + 4) (by decide) (hX _ (by decide)), k.1 (60 + 5) (by decide) (hX _ (by decide)), k.1 (60 + 6) (by decide) (hX _ (by decide)), k.2.2.2 60 (by decide)]
  exact h
theorem NR.kx (h : NR 103 τ ρ M) (k : KpX X XF M M') (hX : 103 ∉ X) : NR 103 τ ρ M' := by
  unfold NR at h ⊢
  rw [k.1 103 (by decide) hX]
  exact h
theorem PastR.of (h : PastR τ M) (e0 : M'.1 57 0 = M.1 57 0) (e4 : M'.1 57 4 = M.1 57 4) (e60 : M'.1 67 60 = M.1 67 60) (e58 : M'.1 58 = M.1 58) (e108 : M'.1 108 = M.1 108) : PastR τ M' := by
  obtain ⟨q, x, h1, h2, h3, h4, h5, h6⟩ := h
  refine ⟨q, x, h1, h2, e0.trans h3, e4.trans h4, e60.trans h5, fun j hj => ?_⟩
  obtain ⟨ρ, a1, a2, a3⟩ := h6 j hj
  exact ⟨ρ, a1, a2.kp e58, a3.kp e108⟩
theorem PastR.kx (h : PastR τ M) (k : KpX X XF M M') (hX : ∀ a ∈ [57, 58, 108], a ∉ X) (hF : 60 ∉ XF) : PastR τ M' := h.of (by rw [k.1 57 (by decide) (hX _ (by decide))]) (by rw [k.1 57 (by decide) (hX _ (by decide))]) (k.2.1 60 (by decide) (by decide) (by decide) hF) (k.1 58 (by decide) (hX _ (by decide))) (k.1 108 (by decide) (hX _ (by decide)))
theorem SlotR.of (h : SlotR τ M) (e1 : M'.1 57 1 = M.1 57 1) (e59 : M'.1 59 = M.1 59) (e116 : M'.1 116 = M.1 116) (e117 : M'.1 117 = M.1 117) : SlotR τ M' := by
  obtain ⟨p, h1, h2⟩ := h
  refine ⟨p, e1.trans h1, fun s hs => ⟨by rw [e116]; exact (h2 s hs).1, fun hp => ?_⟩⟩
  obtain ⟨ρ, a1, a2, a3⟩ := (h2 s hs).2 hp
  exact ⟨ρ, a1, a2.kp e59, a3.kp e117⟩
theorem SlotR.kx (h : SlotR τ M) (k : KpX X XF M M') (hX : ∀ a ∈ [57, 59, 116, 117], a ∉ X) : SlotR τ M' := h.of (by rw [k.1 57 (by decide) (hX _ (by decide))]) (k.1 59 (by decide) (hX _ (by decide))) (k.1 116 (by decide) (hX _ (by decide))) (k.1 117 (by decide) (hX _ (by decide)))
theorem KnownR.kx (h : KnownR τ M) (k : KpX X XF M M') (hX : ∀ a ∈ [53, 54, 55, 56, 113, 114, 115], a ∉ X) (hF : 66 ∉ XF) : KnownR τ M' := by
  unfold KnownR at h ⊢
  rw [k.1 53 (by decide) (hX _ (by decide)), k.1 54 (by decide) (hX _ (by decide)), k.1 55 (by decide) (hX _ (by decide)), k.1 56 (by decide) (hX _ (by decide)), k.1 113 (by decide) (hX _ (by decide)), k.1 114 (by decide) (hX _ (by decide)), k.1 115 (by decide) (hX _ (by decide)), k.2.1 66 (by decide) (by decide) (by decide) hF]
  exact h
theorem TapeR.kx (h : TapeR M) (k : KpX X XF M M') (hX : ∀ a ∈ [21, 22, 68], a ∉ X) (hF : 2 ∉ XF) : TapeR M' := by
  unfold TapeR at h ⊢
  rw [k.1 21 (by decide) (hX _ (by decide)), k.1 22 (by decide) (hX _ (by decide)), k.1 68 (by decide) (hX _ (by decide)), k.2.1 2 (by decide) (by decide) (by decide) hF]
  exact h
theorem PostR.kx (h : PostR τ ρ M) (k : KpX X XF M M') (hX : ∀ a ∈ [48, 49], a ∉ X) : PostR τ ρ M' := by
  unfold PostR at h ⊢
  rw [k.1 48 (by decide) (hX _ (by decide)), k.1 49 (by decide) (hX _ (by decide))]
  exact h
theorem RelP.kx {ρ' : Nat → Nat} (h : RelP t v τ ρ F M) (k : KpX X XF M M') (hX : ∀ a ∈ townA, a ∉ X) (h0 : 0 ∉ X) (h18 : 18 ∉ XF) (h17 : 17 ∉ XF) (wn : wfN τ ρ') (nc : NC 60 t τ ρ' M') (nr : NR 103 τ ρ' M') (pa : PastR τ M') (sl : SlotR τ M') (kn : KnownR τ M') (ta : TapeR M') (po : PostR τ ρ' M') : RelP t v τ ρ' F M' := by
  obtain ⟨h1, h2, h3, h4, h5, h6, h7, h8, h9, h10, h11, h12, h13, h14, h15⟩ := h
  refine ⟨h1, wn, h3.kx k hX, h4.kx k hX h18, nc, nr, ?_, pa, sl, kn, ta, ?_, ⟨h13.1, h13.2.1.kx h3.1 k hX, h13.2.2.kx k hX h18⟩, po, ?_⟩
  · rw [k.2.2.2 0 (by decide)]
    exact h7
  · rw [k.1 0 (by decide) h0, k.2.1 17 (by decide) (by decide) (by decide) h17]
    exact h12
  · unfold KeyR at h15 ⊢
    rw [k.2.2.1]
    exact h15
theorem RelP.kt (h : RelP t v τ ρ F M) (k : KpX [21, 22, 68] [2] M M') (ta : TapeR M') : Rel M' :=
  ⟨t, v, τ, ρ, F, h.kx k (by decide) (by decide) (by decide) (by decide) h.2.1 (h.2.2.2.2.1.kx k (by decide)) (h.2.2.2.2.2.1.kx k (by decide)) (h.2.2.2.2.2.2.2.1.kx k (by decide) (by decide)) (h.2.2.2.2.2.2.2.2.1.kx k (by decide)) (h.2.2.2.2.2.2.2.2.2.1.kx k (by decide) (by decide)) ta (h.2.2.2.2.2.2.2.2.2.2.2.2.2.1.kx k (by decide))⟩
theorem RelP.kk (h : RelP t v τ ρ F M) (k : KpX [53, 54, 55, 56, 113, 114, 115] [66] M M') (kn : KnownR τ M') : Rel M' :=
  ⟨t, v, τ, ρ, F, h.kx k (by decide) (by decide) (by decide) (by decide) h.2.1 (h.2.2.2.2.1.kx k (by decide)) (h.2.2.2.2.2.1.kx k (by decide)) (h.2.2.2.2.2.2.2.1.kx k (by decide) (by decide)) (h.2.2.2.2.2.2.2.2.1.kx k (by decide)) kn (h.2.2.2.2.2.2.2.2.2.2.1.kx k (by decide) (by decide)) (h.2.2.2.2.2.2.2.2.2.2.2.2.2.1.kx k (by decide))⟩
end KX
theorem s_forget {M : Mem} (R : Rel M) : OkB (f_X11_forget M) f_X12_forget := by
  obtain ⟨t, v, τ, ρ, F, R⟩ := R
  obtain ⟨k, hk, a1, a2, -⟩ := R.2.2.2.2.2.2.2.2.2.1
  refine ⟨M.1 53 0, sI M 53 0 0, sI (sI M 53 0 0) 67 66 0, rfl, ?_, ?_⟩
  · show some ((sI M 53 0 0).1 67 66, _) = _
    rw [sI_cell (by decide), a2, a1]
  · refine R.kk (M' := sI (sI M 53 0 0) 67 66 0) (KpX.tr (KpX.set (by decide) (by decide)) (KpX.fld (by decide))) ⟨0, by omega, ?_, ?_, fun i hi => absurd hi (by omega)⟩
    · rw [sI_cell (by decide), sI_same]; rfl
    · rw [sI_same]; rfl
theorem s_back {M : Mem} (R : Rel M) (x : Int32) : OkB (f_X11_back x M) (f_X12_back x) := by
  have RR := R
  obtain ⟨t, v, τ, ρ, F, R⟩ := R
  obtain ⟨l, hl, a1, a2, a3⟩ := R.2.2.2.2.2.2.2.2.2.2.1
  unfold f_X11_back
  rcases ar_in x (n := l + 1) (by omega) with h | ⟨j, hj, rfl⟩
  · by_cases h0 : x < 0
    · exact ⟨-1, M, M, by rw [if_pos h0], by unfold f_X12_back; rw [if_pos h0], RR⟩
    · have h1 : ¬ x ≤ nI l := by
        intro z
        have z1 := Int32.le_iff_toInt_le.mp z
        have z2 := Int32.le_iff_toInt_le.mp (h.resolve_left h0)
        rw [nI_toInt (by omega)] at z1 z2
        omega
      exact ⟨-1, M, M, by rw [if_neg h0, a1, if_neg h1], by unfold f_X12_back; rw [if_neg h0, a2, if_neg h1], RR⟩
  · have h0 : ¬ nI j < 0 := nI_pos (by omega)
    have h1 : nI j ≤ nI l := nI_le (by omega) (by omega)
    have e : nI l - nI j = nI (l - j) := pk_sub (by omega)
    refine ⟨nI (l - j), sI M 21 1 (nI (l - j)), sI (sI M 21 1 (nI (l - j))) 67 2 (nI (l - j)), ?_, ?_, ?_⟩
    · rw [if_neg h0, a1, if_pos h1, lt_def, sI_same, e]
    · have a2' : (sI M 21 1 (nI (l - j))).1 67 2 = nI l := by rw [sI_cell (by decide)]; exact a2
      unfold f_X12_back
      rw [if_neg h0, a2', if_pos h1, lt_def, sI_same, e]
    · refine R.kt (M' := sI (sI M 21 1 (nI (l - j))) 67 2 (nI (l - j))) (KpX.tr (KpX.set (by decide) (by decide)) (KpX.fld (by decide))) ⟨l - j, by omega, ?_, ?_, fun i hi => ?_⟩
      · rw [sI_cell (by decide), sI_same]
      · rw [sI_same]
      · rw [sI_cell (by decide), sI_cell (by decide), sI_cell (by decide), sI_cell (by decide)]
        exact a3 i (by omega)
/-- the cells l .. l + n - 1 of a hold B 0 .. -/
def wrM (M : Mem) (a l : Nat) (B : Nat → Int32) (n : Nat) : Mem := (fun c j => if c = a ∧ l ≤ j ∧ j < l + n then B (j - l) else M.1 c j, M.2)
theorem wr_cell {M : Mem} {a l n c : Nat} {B : Nat → Int32} (h : c ≠ a) : (wrM M a l B n).1 c = M.1 c := by
  funext j
  exact if_neg (fun z => h z.1)
theorem wr_s {M : Mem} {a l n : Nat} {B : Nat → Int32} : sI (wrM M a l B n) a (l + n) (B n) = wrM M a l B (n + 1) := by
  apply Prod.ext
  · funext c j
    rw [sI1]
    show (if c = a ∧ j = l + n then B n else if c = a ∧ l ≤ j ∧ j < l + n then B (j - l) else M.1 c j) = if c = a ∧ l ≤ j ∧ j < l + (n + 1) then B (j - l) else M.1 c j
    by_cases h : c = a ∧ j = l + n
    · rw [if_pos h, if_pos ⟨h.1, by omega, by omega⟩, h.2, show l + n - l = n by omega]
    · rw [if_neg h]
      by_cases h2 : c = a ∧ l ≤ j ∧ j < l + n
      · rw [if_pos h2, if_pos ⟨h2.1, h2.2.1, by omega⟩]
      · rw [if_neg h2, if_neg]
        intro h3
        by_cases h4 : j = l + n
        · exact h ⟨h3.1, h4⟩
        · exact h2 ⟨h3.1, h3.2.1, by omega⟩
  · rfl
theorem wr_0 {M : Mem} {a l : Nat} {B : Nat → Int32} : wrM M a l B 0 = M := by
  apply Prod.ext
  · funext c j
    exact if_neg (by omega)
  · rfl
theorem sI_sI {M : Mem} {a i : Nat} {x y : Int32} : sI (sI M a i x) a i y = sI M a i y := by
  apply Prod.ext
  · funext c j
    rw [sI1, sI1, sI1]
    by_cases h : c = a ∧ j = i
    · rw [if_pos h, if_pos h]
    · rw [if_neg h, if_neg h, if_neg h]
  · rfl
theorem sI_comm {M : Mem} {a i b j : Nat} {x y : Int32} (h : a ≠ b ∨ i ≠ j) : sI (sI M a i x) b j y = sI (sI M b j y) a i x := by
  apply Prod.ext
  · funext c q
    rw [sI1, sI1, sI1, sI1]
    by_cases h1 : c = b ∧ q = j
    · rw [if_pos h1, if_neg (by omega), if_pos h1]
    · rw [if_neg h1, if_neg h1]
  · rfl
theorem sI_id {M : Mem} {a i : Nat} {x : Int32} (h : M.1 a i = x) : sI M a i x = M := by
  apply Prod.ext
  · funext c q
    rw [sI1]
    by_cases h1 : c = a ∧ q = i
    · rw [if_pos h1, h1.1, h1.2, h]
    · rw [if_neg h1]
  · rfl
def fd (a q f l : Nat) (B : Nat → Int32) (n : Nat) (M : Mem) : Mem := sI (wrM M a l B n) q f (nI (l + n))
theorem fd_s {a q f l n : Nat} {B : Nat → Int32} {M : Mem} (h : a ≠ q) : sI (sI (fd a q f l B n M) a (l + n) (B n)) q f (nI (l + n + 1)) = fd a q f l B (n + 1) M := by
  unfold fd
  rw [sI_comm (Or.inl (Ne.symm h)), sI_sI, wr_s, Nat.add_assoc]
theorem fd_0 {a q f l : Nat} {B : Nat → Int32} {M : Mem} (h : M.1 q f = nI l) : fd a q f l B 0 M = M := by
  unfold fd
  rw [wr_0, Nat.add_zero, sI_id h]
def byt (x : Int32) (s : Nat) : Int32 := vp_nar .byte ((x >>> (nI s &&& 31)).toInt8.toInt32)
theorem app1 {fu l n s : Nat} {x : Int32} {B : Nat → Int32} {M : Mem} (hs : s < 32) (hl : l + n < 2000) (hB : B n = byt x s) : f_X7_append_L3 (fu + 1) x (nI s) (fd 22 21 1 l B n M) = f_X7_append_L3 fu x (nI s + -8) (fd 22 21 1 l B (n + 1) M) := by
  have e : (fd 22 21 1 l B n M).1 21 1 = nI (l + n) := sI_same
  have e2 : ∀ b, (sI (fd 22 21 1 l B n M) 22 (l + n) b).1 21 1 = nI (l + n) := fun b => by rw [sI_cell (by decide)]; exact e
  rw [f_X7_append_L3, if_neg (nI_pos (by omega)), e, li 2000, if_neg (nI_ge hl (by omega)), pb_n (by omega) (by omega), sb, e2, lt_def, lt_def, li 1, nI_add]
  unfold byt at hB
  rw [← hB, fd_s (by decide)]
theorem put1 {fu l n s : Nat} {x : Int32} {B : Nat → Int32} {M : Mem} (hs : s < 32) (hl : l + n < 2000) (hB : B n = byt x s) : f_X12_put_L3 (fu + 1) x (nI s) (fd 68 67 2 l B n M) = f_X12_put_L3 fu x (nI s + -8) (fd 68 67 2 l B (n + 1) M) := by
  have e : (fd 68 67 2 l B n M).1 67 2 = nI (l + n) := sI_same
  have e2 : ∀ b, (sI (fd 68 67 2 l B n M) 68 (l + n) b).1 67 2 = nI (l + n) := fun b => by rw [sI_cell (by decide)]; exact e
  rw [f_X12_put_L3, if_neg (nI_pos (by omega)), e, pb_n (by omega) (by omega), sb, e2, lt_def, lt_def, li 1, nI_add]
  unfold byt at hB
  rw [← hB, fd_s (by decide)]
theorem m24 : nI 24 + -8 = nI 16 := by decide
theorem m16 : nI 16 + -8 = nI 8 := by decide
theorem m8 : nI 8 + -8 = nI 0 := by decide
theorem m0 : nI 0 + -8 < 0 := by decide
theorem app4 {l n : Nat} {x : Int32} {B : Nat → Int32} {M : Mem} (hl : l + n + 3 < 2000) (h0 : B n = byt x 24) (h1 : B (n + 1) = byt x 16) (h2 : B (n + 2) = byt x 8) (h3 : B (n + 3) = byt x 0) : f_X7_append x (fd 22 21 1 l B n M) = some (fd 22 21 1 l B (n + 4) M) := by
  have key : ∀ fu, f_X7_append_L3 (fu + 1 + 1 + 1 + 1 + 1) x 24 (fd 22 21 1 l B n M) = some (fd 22 21 1 l B (n + 4) M) := fun fu => by
    rw [li 24, app1 (by omega) (by omega) h0, m24, app1 (by omega) (by omega) h1, m16, app1 (by omega) (by omega) h2, m8, app1 (by omega) (by omega) h3, f_X7_append_L3, if_pos m0]
  unfold f_X7_append
  rw [show FU = 999995 + 1 + 1 + 1 + 1 + 1 from rfl, key, sb]
theorem put4 {l n : Nat} {x : Int32} {B : Nat → Int32} {M : Mem} (hl : l + n + 3 < 2000) (h0 : B n = byt x 24) (h1 : B (n + 1) = byt x 16) (h2 : B (n + 2) = byt x 8) (h3 : B (n + 3) = byt x 0) : f_X12_put x (fd 68 67 2 l B n M) = some (fd 68 67 2 l B (n + 4) M) := by
  have key : ∀ fu, f_X12_put_L3 (fu + 1 + 1 + 1 + 1 + 1) x 24 (fd 68 67 2 l B n M) = some (fd 68 67 2 l B (n + 4) M) := fun fu => by
    rw [li 24, put1 (by omega) (by omega) h0, m24, put1 (by omega) (by omega) h1, m16, put1 (by omega) (by omega) h2, m8, put1 (by omega) (by omega) h3, f_X12_put_L3, if_pos m0]
  unfold f_X12_put
  rw [show FU = 999995 + 1 + 1 + 1 + 1 + 1 from rfl, key, sb]
theorem KpX.wr {X XF : List Nat} {M : Mem} {a l n : Nat} {B : Nat → Int32} (ha : a ∈ X) (h67 : a ≠ 67) : KpX X XF M (wrM M a l B n) := ⟨fun c _ hc => wr_cell (fun z => hc (z ▸ ha)), fun k _ _ _ _ => by rw [wr_cell (Ne.symm h67)], rfl, fun _ _ => rfl⟩
theorem s_feed {M : Mem} (R : Rel M) (x1 x2 x3 x4 x5 : Int32) : OkB (f_X11_feed x1 x2 x3 x4 x5 M) (f_X12_feed x1 x2 x3 x4 x5) := by
  have RR := R
  obtain ⟨t, v, τ, ρ, F, R⟩ := R
  obtain ⟨l, hl, a1, a2, a3⟩ := R.2.2.2.2.2.2.2.2.2.2.1
  by_cases h : l ≤ 1980
  · let B : Nat → Int32 := fun k => byt (if k < 4 then x1 else if k < 8 then x2 else if k < 12 then x3 else if k < 16 then x4 else x5) (24 - 8 * (k % 4))
    have e1 : (fd 22 21 1 l B 20 M).1 67 2 = nI l := by
      unfold fd
      rw [sI_cell (by decide), wr_cell (by decide)]
      exact a2
    refine ⟨nI (l + 20), fd 22 21 1 l B 20 M, fd 68 67 2 l B 20 (fd 22 21 1 l B 20 M), ?_, ?_, ?_⟩
    · unfold f_X11_feed
      rw [a1, li 1980, if_pos (nI_le h (by omega))]
      have e0 : f_X7_append x1 M = some (fd 22 21 1 l B 4 M) := by
        have := app4 (l := l) (n := 0) (x := x1) (B := B) (M := M) (by omega) rfl rfl rfl rfl
        rw [fd_0 a1] at this
        exact this
      rw [e0, sb, app4 (n := 4) (by omega) rfl rfl rfl rfl, sb, app4 (n := 8) (by omega) rfl rfl rfl rfl, sb, app4 (n := 12) (by omega) rfl rfl rfl rfl, sb, app4 (n := 16) (by omega) rfl rfl rfl rfl, sb]
      have e : (fd 22 21 1 l B 20 M).1 21 1 = nI (l + 20) := sI_same
      rw [e]
    · generalize fd 22 21 1 l B 20 M = M1 at e1
      unfold f_X12_feed
      rw [e1, li 20, nI_add, li 2000, if_pos (nI_le (by omega) (by omega))]
      have e0 : f_X12_put x1 M1 = some (fd 68 67 2 l B 4 M1) := by
        have := put4 (l := l) (n := 0) (x := x1) (B := B) (M := M1) (by omega) rfl rfl rfl rfl
        rw [fd_0 e1] at this
        exact this
      rw [e0, sb, put4 (n := 4) (by omega) rfl rfl rfl rfl, sb, put4 (n := 8) (by omega) rfl rfl rfl rfl, sb, put4 (n := 12) (by omega) rfl rfl rfl rfl, sb, put4 (n := 16) (by omega) rfl rfl rfl rfl, sb]
      have e : (fd 68 67 2 l B 20 M1).1 67 2 = nI (l + 20) := sI_same
      rw [e]
    · refine R.kt (M' := fd 68 67 2 l B 20 (fd 22 21 1 l B 20 M)) (KpX.tr (KpX.tr (KpX.wr (by decide) (by decide)) (KpX.set (by decide) (by decide))) (KpX.tr (KpX.wr (by decide) (by decide)) (KpX.fld (by decide)))) ⟨l + 20, by omega, ?_, ?_, fun i hi => ?_⟩
      · unfold fd
        rw [sI_cell (by decide), wr_cell (by decide), sI_same]
      · unfold fd
        rw [sI_same]
      · unfold fd
        rw [sI_cell (by decide), wr_cell (by decide), sI_cell (by decide), sI_cell (by decide)]
        show (if 22 = 22 ∧ l ≤ i ∧ i < l + 20 then B (i - l) else M.1 22 i) = if 68 = 68 ∧ l ≤ i ∧ i < l + 20 then B (i - l) else (sI (wrM M 22 l B 20) 21 1 (nI (l + 20))).1 68 i
        by_cases h2 : l ≤ i ∧ i < l + 20
        · rw [if_pos ⟨rfl, h2⟩, if_pos ⟨rfl, h2⟩]
        · rw [if_neg (fun z => h2 z.2), if_neg (fun z => h2 z.2), sI_cell (by decide), wr_cell (by decide)]
          exact a3 i (by omega)
  · refine ⟨-1, M, M, ?_, ?_, RR⟩
    · unfold f_X11_feed
      rw [a1, li 1980, if_neg (nI_ge (by omega) (by omega))]
    · unfold f_X12_feed
      rw [a2, li 20, nI_add, li 2000, if_neg (nI_ge (by omega) (by omega))]

-- 89s.loops: pure: all tells, by the class and by the reference
section WFS
variable {K V P : Nat → Nat} {N : Nat → Int64}
theorem eb_inv {α β ε : Type} {x : Except ε α} {f : α → Except ε β} {b : β} (h : x.bind f = .ok b) : ∃ a, x = .ok a ∧ f a = .ok b := by
  cases x with
  | error e => cases h
  | ok a => exact ⟨a, rfl, h⟩
def wfX (τ : Nat → Nat → Nat) : Prop := (∀ s, s < tS τ → τ 1 s < tC τ ∧ τ 2 s < tC τ ∧ τ 1 s ≠ τ 2 s ∧ 1 ≤ τ 3 s ∧ τ 3 s ≤ 99) ∧ tD τ ≤ 100 ∧ tE τ ≤ 9999 ∧ (∀ y, y < tY τ → τ 6 y < tC τ) ∧ (∀ w, w < tW τ → τ 7 w ≤ 99) ∧ (τ 0 6 < tC τ ∨ τ 0 6 = 0)
def WfS (s : TSt) : Prop := bdS s.2.1 s.2.2.1 ∧ (∀ k, okB (s.2.2.2.1 k) (s.2.2.2.2.1 k)) ∧ (∀ p ∈ s.2.2.1, p.2 < tC s.2.1 ∨ p.2 = 10) ∧ (s.2.2.2.2.2.1 = 0 → wfX s.2.1)
variable {i : Nat} {τ : Nat → Nat → Nat} {nm : List (Int64 × Nat)} {B : Nat → List (Cd × Cd × Cd)} {W : Nat → Cd} {lf : Nat × Nat} {s' : TSt}
theorem lkM_lt {x : Int64} {c : Nat} (h : ∀ p ∈ nm, p.2 < tC τ ∨ p.2 = 10) (e : lkM nm x = some c) : c < tC τ := by
  obtain ⟨a, b⟩ := lkM_in e
  have : c < tC τ ∨ c = 10 := h _ b
  omega
theorem wf_C (w : WfS (i, τ, nm, B, W, lf)) (h : tlC K P N (i, τ, nm, B, W, lf) = .ok s') : WfS s' := by
  obtain ⟨⟨b1, b2, b3, b4, b5⟩, o, p, x⟩ := w
  unfold tlC at h
  dsimp only at h b1 b2 b3 b4 b5 o p x
  by_cases h7 : 7 ≤ tC τ
  · rw [if_pos h7] at h; cases h
  · rw [if_neg h7] at h
    obtain ⟨i1, -, h⟩ := eb_inv h
    obtain ⟨i2, -, h⟩ := eb_inv h
    obtain ⟨i3, -, h⟩ := eb_inv h
    cases h
    refine ⟨⟨?_, b2, b3, b4, ?_⟩, o, fun q hq => ?_, fun z => ?_⟩
    · show tC τ + 1 ≤ 7
      omega
    · show (nm ++ [(N i1, tC τ)]).length = tC τ + 1 + tY τ + tW τ
      rw [List.length_append, b5, List.length_singleton]
      omega
    · show q.2 < tC τ + 1 ∨ q.2 = 10
      rcases List.mem_append.mp hq with a | a
      · have := p q a
        omega
      · rw [List.mem_singleton.mp a]
        left
        show tC τ < tC τ + 1
        omega
    · obtain ⟨x1, x2, x3, x4, x5, x6⟩ := x (lfU_0 z (by omega)).1
      refine ⟨fun s hs => ?_, x2, x3, fun y hy => ?_, x5, ?_⟩
      · obtain ⟨y1, y2, y3⟩ := x1 s hs
        exact ⟨by show τ 1 s < tC τ + 1; omega, by show τ 2 s < tC τ + 1; omega, y3⟩
      · have := x4 y hy
        show τ 6 y < tC τ + 1
        omega
      · show τ 0 6 < tC τ + 1 ∨ τ 0 6 = 0
        omega
theorem wf_R (w : WfS (i, τ, nm, B, W, lf)) (h : tlR' K V P N (i, τ, nm, B, W, lf) = .ok s') : WfS s' := by
  obtain ⟨⟨b1, b2, b3, b4, b5⟩, o, p, x⟩ := w
  unfold tlR' at h
  dsimp only at h b1 b2 b3 b4 b5 o p x
  by_cases h7 : 10 ≤ tS τ
  · rw [if_pos h7] at h; cases h
  · rw [if_neg h7] at h
    obtain ⟨i1, -, h⟩ := eb_inv h
    obtain ⟨i2, -, h⟩ := eb_inv h
    obtain ⟨i3, -, h⟩ := eb_inv h
    obtain ⟨i4, -, h⟩ := eb_inv h
    obtain ⟨i5, -, h⟩ := eb_inv h
    cases h
    refine ⟨⟨b1, ?_, b3, b4, b5⟩, o, p, fun z => ?_⟩
    · show tS τ + 1 ≤ 10
      omega
    · obtain ⟨z1, z2, z3⟩ := inS_0 z
      obtain ⟨z4, z5⟩ := lfU_0 z1 (by omega)
      obtain ⟨z6, z7⟩ := cnS_0 z4
      obtain ⟨z8, z9⟩ := cnS_0 z6
      obtain ⟨x1, x2, x3, x4, x5, x6⟩ := x z8
      refine ⟨fun s hs => ?_, x2, x3, x4, x5, x6⟩
      have hs : s < tS τ + 1 := hs
      by_cases e : s = tS τ
      · subst e
        cases h1 : lkM nm (N i1) with
        | none => rw [h1] at z9; cases z9
        | some a =>
          cases h2 : lkM nm (N i2) with
          | none => rw [h2] at z7; cases z7
          | some b =>
            have la := lkM_lt (τ := τ) p h1
            have lb := lkM_lt (τ := τ) p h2
            have hab : a ≠ b := fun z => by
              rw [h1, h2, z] at z5
              simp at z5
            simp only [upT]
            simp
            exact ⟨la, lb, hab, by omega, by omega⟩
      · have u := x1 s (by omega)
        have e'' : ∀ f, 1 ≤ f → upT (upT (upT (upT τ 1 (tS τ) ((lkM nm (N i1)).getD 0)) 2 (tS τ) ((lkM nm (N i2)).getD 0)) 3 (tS τ) (V i3)) 0 1 (tS τ + 1) f s = τ f s := fun f hf => (upT_f (by omega)).trans ((upT_k e).trans ((upT_k e).trans (upT_k e)))
        show upT (upT (upT (upT τ 1 (tS τ) ((lkM nm (N i1)).getD 0)) 2 (tS τ) ((lkM nm (N i2)).getD 0)) 3 (tS τ) (V i3)) 0 1 (tS τ + 1) 1 s < tC τ ∧ upT (upT (upT (upT τ 1 (tS τ) ((lkM nm (N i1)).getD 0)) 2 (tS τ) ((lkM nm (N i2)).getD 0)) 3 (tS τ) (V i3)) 0 1 (tS τ + 1) 2 s < tC τ ∧ upT (upT (upT (upT τ 1 (tS τ) ((lkM nm (N i1)).getD 0)) 2 (tS τ) ((lkM nm (N i2)).getD 0)) 3 (tS τ) (V i3)) 0 1 (tS τ + 1) 1 s ≠ upT (upT (upT (upT τ 1 (tS τ) ((lkM nm (N i1)).getD 0)) 2 (tS τ) ((lkM nm (N i2)).getD 0)) 3 (tS τ) (V i3)) 0 1 (tS τ + 1) 2 s ∧ 1 ≤ upT (upT (upT (upT τ 1 (tS τ) ((lkM nm (N i1)).getD 0)) 2 (tS τ) ((lkM nm (N i2)).getD 0)) 3 (tS τ) (V i3)) 0 1 (tS τ + 1) 3 s ∧ upT (upT (upT (upT τ 1 (tS τ) ((lkM nm (N i1)).getD 0)) 2 (tS τ) ((lkM nm (N i2)).getD 0)) 3 (tS τ) (V i3)) 0 1 (tS τ + 1) 3 s ≤ 99
        rw [e'' 1 (by omega), e'' 2 (by omega), e'' 3 (by omega)]
        exact u
theorem mem_10 {x : Int64} (p : ∀ p ∈ nm, p.2 < tC τ ∨ p.2 = 10) : ∀ q ∈ nm ++ [(x, 10)], q.2 < tC τ ∨ q.2 = 10 := fun q hq => by
  rcases List.mem_append.mp hq with a | a
  · exact p q a
  · rw [List.mem_singleton.mp a]
    exact Or.inr rfl
theorem wf_Y (w : WfS (i, τ, nm, B, W, lf)) (h : tlY K V P N (i, τ, nm, B, W, lf) = .ok s') : WfS s' := by
  obtain ⟨⟨b1, b2, b3, b4, b5⟩, o, p, x⟩ := w
  unfold tlY at h
  dsimp only at h b1 b2 b3 b4 b5 o p x
  by_cases h7 : 6 ≤ tY τ
  · rw [if_pos h7] at h; cases h
  · rw [if_neg h7] at h
    obtain ⟨i1, -, h⟩ := eb_inv h
    obtain ⟨i2, -, h⟩ := eb_inv h
    obtain ⟨i3, -, h⟩ := eb_inv h
    obtain ⟨i4, -, h⟩ := eb_inv h
    obtain ⟨i5, -, h⟩ := eb_inv h
    obtain ⟨i6, -, h⟩ := eb_inv h
    cases h
    refine ⟨⟨b1, b2, ?_, b4, ?_⟩, o, mem_10 (τ := τ) p, fun z => ?_⟩
    · show tY τ + 1 ≤ 6
      omega
    · show (nm ++ [(N i1, 10)]).length = tC τ + (tY τ + 1) + tW τ
      rw [List.length_append, b5, List.length_singleton]
      omega
    · obtain ⟨z1, z2⟩ := cnS_0 z
      obtain ⟨z3, -, -⟩ := inS_0 z1
      obtain ⟨z4, -, -⟩ := inS_0 z3
      obtain ⟨z5, z6⟩ := lfU_0 z4 (by omega)
      obtain ⟨x1, x2, x3, x4, x5, x6⟩ := x z5
      refine ⟨x1, x2, x3, fun y hy => ?_, x5, x6⟩
      have hy : y < tY τ + 1 := hy
      show upT (upT (upT (upT τ 4 (tY τ) (V i2)) 5 (tY τ) (V i3)) 6 (tY τ) ((lkM nm (N i4)).getD 0)) 0 2 (tY τ + 1) 6 y < tC τ
      by_cases e : y = tY τ
      · subst e
        rw [upT_f (by decide), upT_s]
        cases h1 : lkM nm (N i4) with
        | none => rw [h1] at z2; cases z2
        | some a => exact lkM_lt (τ := τ) p h1
      · rw [upT_f (by decide), upT_k e, upT_k e, upT_k e]
        exact x4 y (by omega)
theorem wf_W (w : WfS (i, τ, nm, B, W, lf)) (h : tlW K V P N (i, τ, nm, B, W, lf) = .ok s') : WfS s' := by
  obtain ⟨⟨b1, b2, b3, b4, b5⟩, o, p, x⟩ := w
  unfold tlW at h
  dsimp only at h b1 b2 b3 b4 b5 o p x
  by_cases h7 : 5 ≤ tW τ
  · rw [if_pos h7] at h; cases h
  · rw [if_neg h7] at h
    obtain ⟨i1, -, h⟩ := eb_inv h
    obtain ⟨i2, -, h⟩ := eb_inv h
    obtain ⟨i3, -, h⟩ := eb_inv h
    obtain ⟨i4, -, h⟩ := eb_inv h
    cases h
    refine ⟨⟨b1, b2, b3, ?_, ?_⟩, o, mem_10 (τ := τ) p, fun z => ?_⟩
    · show tW τ + 1 ≤ 5
      omega
    · show (nm ++ [(N i1, 10)]).length = tC τ + tY τ + (tW τ + 1)
      rw [List.length_append, b5, List.length_singleton]
      omega
    · obtain ⟨z3, -, z9⟩ := inS_0 z
      obtain ⟨z5, z6⟩ := lfU_0 z3 (by omega)
      obtain ⟨x1, x2, x3, x4, x5, x6⟩ := x z5
      refine ⟨x1, x2, x3, x4, fun y hy => ?_, x6⟩
      have hy : y < tW τ + 1 := hy
      show upT (upT τ 7 (tW τ) (V i2)) 0 3 (tW τ + 1) 7 y ≤ 99
      by_cases e : y = tW τ
      · subst e
        rw [upT_f (by decide), upT_s]
        exact z9
      · rw [upT_f (by decide), upT_k e]
        exact x5 y (by omega)
theorem wf_B (w : WfS (i, τ, nm, B, W, lf)) (h : tlB K P N (i, τ, nm, B, W, lf) = .ok s') : WfS s' := by
  obtain ⟨⟨b1, b2, b3, b4, b5⟩, o, p, x⟩ := w
  unfold tlB at h
  dsimp only at h b1 b2 b3 b4 b5 o p x
  obtain ⟨i1, -, h⟩ := eb_inv h
  obtain ⟨i2, -, h⟩ := eb_inv h
  obtain ⟨i3, -, h⟩ := eb_inv h
  cases h
  refine ⟨⟨b1, b2, b3, b4, b5⟩, o, p, fun z => ?_⟩
  obtain ⟨z1, z2⟩ := cnS_0 z
  obtain ⟨x1, x2, x3, x4, x5, x6⟩ := x z1
  refine ⟨x1, x2, x3, x4, x5, Or.inl ?_⟩
  show upT τ 0 6 ((lkM nm (N i1)).getD 0) 0 6 < tC τ
  rw [upT_s]
  cases h1 : lkM nm (N i1) with
  | none => rw [h1] at z2; cases z2
  | some a => exact lkM_lt (τ := τ) p h1
theorem wf_I {k f b : Nat} (w : WfS (i, τ, nm, B, W, lf)) (hf : (f = 4 ∧ b = 100) ∨ (f = 5 ∧ b = 9999)) (h : tlI K V P k f b (i, τ, nm, B, W, lf) = .ok s') : WfS s' := by
  obtain ⟨⟨b1, b2, b3, b4, b5⟩, o, p, x⟩ := w
  unfold tlI at h
  dsimp only at h b1 b2 b3 b4 b5 o p x
  obtain ⟨i1, -, h⟩ := eb_inv h
  obtain ⟨i2, -, h⟩ := eb_inv h
  obtain ⟨i3, -, h⟩ := eb_inv h
  cases h
  rcases hf with ⟨rfl, rfl⟩ | ⟨rfl, rfl⟩
  · refine ⟨⟨b1, b2, b3, b4, b5⟩, o, p, fun z => ?_⟩
    obtain ⟨z1, -, z2⟩ := inS_0 z
    obtain ⟨x1, x2, x3, x4, x5, x6⟩ := x z1
    exact ⟨x1, z2, x3, x4, x5, x6⟩
  · refine ⟨⟨b1, b2, b3, b4, b5⟩, o, p, fun z => ?_⟩
    obtain ⟨z1, -, z2⟩ := inS_0 z
    obtain ⟨x1, x2, x3, x4, x5, x6⟩ := x z1
    exact ⟨x1, x2, z2, x4, x5, x6⟩
theorem rd_wfC (hV : ∀ j, K j = 2 → V j ≤ 9999) {j : Nat} {r : Cd × Nat} (h : rdG K V 21 0 0 j = .ok r) : wfC r.1 := ⟨rd_wf (B := 24) (fun j hj => by have := hV j hj; omega) 21 0 0 j r (by omega) (by omega) h 0 (by omega), rd_wf (B := 24) (fun j hj => by have := hV j hj; omega) 21 0 0 j r (by omega) (by omega) h 1 (by omega)⟩
theorem lwG_ok (hV : ∀ j, K j = 2 → V j ≤ 9999) : ∀ (m j : Nat) (r : List (Cd × Cd × Cd) × Cd × Nat), lwG K V m j = .ok r → okB r.1 r.2.1
  | 0, j, r, h => by
    unfold lwG at h
    by_cases k : K j = 31
    · rw [if_pos k] at h; cases h
    · rw [if_neg k] at h
      obtain ⟨w, h1, h⟩ := eb_inv h
      cases h
      exact ⟨fun b hb => (by cases hb), rd_wfC hV h1⟩
  | m + 1, j, r, h => by
    unfold lwG at h
    by_cases k : K j = 31
    · rw [if_pos k] at h
      obtain ⟨i1, -, h⟩ := eb_inv h
      obtain ⟨a, ha, h⟩ := eb_inv h
      obtain ⟨i2, -, h⟩ := eb_inv h
      obtain ⟨b, hb, h⟩ := eb_inv h
      obtain ⟨i3, -, h⟩ := eb_inv h
      obtain ⟨c, hc, h⟩ := eb_inv h
      obtain ⟨i4, -, h⟩ := eb_inv h
      obtain ⟨q, hq, h⟩ := eb_inv h
      cases h
      have ih := lwG_ok hV m i4 q hq
      refine ⟨fun x hx => ?_, ih.2⟩
      rcases List.mem_cons.mp hx with e | e
      · rw [e]
        exact ⟨rd_wfC hV ha, rd_wfC hV hb, rd_wfC hV hc⟩
      · exact ih.1 x e
    · rw [if_neg k] at h
      obtain ⟨w, h1, h⟩ := eb_inv h
      cases h
      exact ⟨fun b hb => (by cases hb), rd_wfC hV h1⟩
theorem wf_L {x : Nat} (hV : ∀ j, K j = 2 → V j ≤ 9999) (w : WfS (i, τ, nm, B, W, lf)) (h : tlL K V x (i, τ, nm, B, W, lf) = .ok s') : WfS s' := by
  obtain ⟨b, o, p, y⟩ := w
  unfold tlL lwHT lwH at h
  dsimp only at h b o p y
  obtain ⟨r, hr, h⟩ := eb_inv h
  obtain ⟨q, hq, hr⟩ := eb_inv hr
  obtain ⟨j1, -, hr⟩ := eb_inv hr
  obtain ⟨j2, -, hq⟩ := eb_inv hq
  obtain ⟨j3, -, hq⟩ := eb_inv hq
  cases hr
  cases h
  have ok := lwG_ok hV 4 j3 q hq
  refine ⟨b, fun k => ?_, p, y⟩
  show okB (if k = x then q.1 else B k) (if k = x then q.2.1 else W k)
  by_cases e : k = x
  · rw [if_pos e, if_pos e]; exact ok
  · rw [if_neg e, if_neg e]; exact o k
theorem wf_S (hV : ∀ j, K j = 2 → V j ≤ 9999) (w : WfS (i, τ, nm, B, W, lf)) (h : tlS K V P N (i, τ, nm, B, W, lf) = .ok s') : WfS s' := by
  unfold tlS at h
  split at h
  · exact wf_C w h
  split at h
  · exact wf_R w h
  split at h
  · exact wf_Y w h
  split at h
  · exact wf_W w h
  split at h
  · exact wf_B w h
  split at h
  · exact wf_I w (Or.inl ⟨rfl, rfl⟩) h
  split at h
  · exact wf_I w (Or.inr ⟨rfl, rfl⟩) h
  split at h
  · exact wf_L hV w h
  · cases h
end WFS
section LPS
variable {K V P : Nat → Nat} {N : Nat → Int64} {E t v : Nat} {M M' : Mem}
theorem bnd {α β γ : Type} {X : Option α} {f : α → Option β} {G : β → Option γ} {y : β} (h : X.bind f = some y) : (X.bind fun z => (f z).bind G) = G y := by
  cases X with
  | none => cases h
  | some a =>
    have h : f a = some y := h
    show (f a).bind G = G y
    rw [h]
    rfl
/-- all tells, by the class -/
theorem c_tells (ht : isT t) (w : wfK K P V E) (hV : ∀ j, K j = 2 → V j ≤ 9999) : ∀ (m fu l : Nat) (s : TSt) (M : Mem), 401 ≤ s.1 + m → m < fu → l ≤ s.1 → tokC K P V N E M → CI E t s M → WfS s → ∃ M', f_X6_readInto_L8 t fu (nI l) M = some M' ∧ FG t M M' ∧ (∀ s', tlA K V P N m s = .ok s' → CI E t s' M' ∧ WfS s') ∧ ∀ x, tlA K V P N m s = .error x → DQ t x.1 (P x.2) M'
  | 0, fu, l, s, M, hm, hf, hl, T, I, wf => by
    obtain ⟨n, A, -⟩ := I
    have := w.1
    have := A.2.2.2.2.1
    omega
  | m + 1, fu, l, (i, τ, nm, B, W, lf), M, hm, hf, hl, T, I, wf => by
    have hE := w.1
    have hA : ∃ n, AV E t i n nm lf M := by
      obtain ⟨n, A, -⟩ := I
      exact ⟨n, A⟩
    obtain ⟨n, A⟩ := hA
    have hi := A.2.2.2.2.1
    have hl : l ≤ i := hl
    have hm : 401 ≤ i + (m + 1) := hm
    obtain ⟨z, rfl⟩ : ∃ z, fu = z + 1 := ⟨fu - 1, by omega⟩
    have kd := c_kind T hi hE A.1
    rw [f_X6_readInto_L8, li 401, if_neg (nI_ge (by omega) (by omega)), if_pos A.1.1, kd, sb]
    have c0 := (cm_f (K i) (w.2.1 i hi).1).2.2
    show ∃ M', _ ∧ _ ∧ (∀ s', (if K i = 0 then Except.ok (i, τ, nm, B, W, lf) else (tlS K V P N (i, τ, nm, B, W, lf)).bind fun s' => tlA K V P N m s') = .ok s' → _) ∧ ∀ x, (if K i = 0 then Except.ok (i, τ, nm, B, W, lf) else (tlS K V P N (i, τ, nm, B, W, lf)).bind fun s' => tlA K V P N m s') = .error x → _
    by_cases h0 : K i = 0
    · rw [if_pos (show nI (cmN (K i)) = 0 by rw [h0]; rfl), if_pos h0]
      exact ⟨M, rfl, FG.rf, (fun s' h => by cases h; exact ⟨I, wf⟩), (fun x h => by cases h)⟩
    · have h0' : ¬ nI (cmN (K i)) = 0 := fun q => by
        have : cmN (K i) = cmN 0 := nI_inj (by omega) (by decide) (q.trans (show (0 : Int32) = nI (cmN 0) from rfl))
        exact h0 (cm_inj _ (w.2.1 i hi).1 0 (by omega) this)
      rw [if_neg h0', if_neg h0, sb]
      obtain ⟨M1, e1, f1, t1⟩ := c_tell1 ht w T I wf.1
      have hb := bnd (G := fun M47 => lt (nI l + 1 : Int32) fun v48 => f_X6_readInto_L8 t z v48 M47) e1
      have hb : ((cTl (nI (cmN (K i))) M).bind fun t10 => (f_X6_expect (59 : Int32) t10).bind fun M47 => lt (nI l + 1 : Int32) fun v48 => f_X6_readInto_L8 t z v48 M47) = lt (nI l + 1 : Int32) fun v48 => f_X6_readInto_L8 t z v48 M1 := hb
      have e2 : ∀ {A}, f_X6_readInto_L8 t z (nI (l + 1)) M1 = A → ((cTl (nI (cmN (K i))) M).bind fun t10 => (f_X6_expect (59 : Int32) t10).bind fun M47 => lt (nI l + 1 : Int32) fun v48 => f_X6_readInto_L8 t z v48 M47) = A := fun {A} h => hb.trans (by rw [lt_def, nI_1]; exact h)
      cases hs : tlS K V P N (i, τ, nm, B, W, lf) with
      | error x =>
        have D := t1.2 x hs
        obtain ⟨y, rfl⟩ : ∃ y, z = y + 1 := ⟨z - 1, by omega⟩
        exact ⟨M1, e2 (by rw [f_X6_readInto_L8, if_neg D.1.n0, ite_self]), f1, (fun s' h => by cases h), (fun y h => by cases h; exact D)⟩
      | ok s1 =>
        obtain ⟨I1, hi1⟩ := t1.1 s1 hs
        obtain ⟨M2, r1, r2, r3, r4⟩ := c_tells ht w hV m z (l + 1) s1 M1 (by omega) (by omega) (by omega) (T.fg ht f1) I1 (wf_S hV wf hs)
        exact ⟨M2, e2 r1, f1.tr r2, r3, r4⟩
/-- all tells, by the reference -/
theorem r_tells (hv : v ≤ 1) (w : wfK K P V E) (mP : ∀ a, a < E → P a < P (a + 1)) (hV : ∀ j, K j = 2 → V j ≤ 9999) : ∀ (m fu : Nat) (s : TSt) (M : Mem), 401 ≤ s.1 + m → m < fu → tokM K P V N E M → RI P E v s M → WfS s → ∃ M', f_X12_read_L112 fu M = some M' ∧ FH v M M' ∧ (∀ s', tlA K V P N m s = .ok s' → RI P E v s' M') ∧ ∀ x, tlA K V P N m s = .error x → DM x.1 (P x.2) v M'
  | 0, fu, s, M, hm, hf, T, I, wf => by
    obtain ⟨g, n, A, -⟩ := I
    have := w.1
    have := A.2.2.2.2.2.1
    omega
  | m + 1, fu, (i, τ, nm, B, W, lf), M, hm, hf, T, I, wf => by
    have hE := w.1
    have hA : ∃ g n, AM P E v i g n nm lf M := by
      obtain ⟨g, n, A, -⟩ := I
      exact ⟨g, n, A⟩
    obtain ⟨g, n, A⟩ := hA
    have hi := A.2.2.2.2.2.1
    have hm : 401 ≤ i + (m + 1) := hm
    obtain ⟨z, rfl⟩ : ∃ z, fu = z + 1 := ⟨fu - 1, by omega⟩
    have is0 : f_X12_is 0 M = some (if K i = 0 then 1 else 0) := r_is0 (k := 0) w T hi A.1.1 A.1.2.1 (by omega)
    rw [f_X12_read_L112, if_pos A.1.1, is0, sb]
    show ∃ M', _ ∧ _ ∧ (∀ s', (if K i = 0 then Except.ok (i, τ, nm, B, W, lf) else (tlS K V P N (i, τ, nm, B, W, lf)).bind fun s' => tlA K V P N m s') = .ok s' → _) ∧ ∀ x, (if K i = 0 then Except.ok (i, τ, nm, B, W, lf) else (tlS K V P N (i, τ, nm, B, W, lf)).bind fun s' => tlA K V P N m s') = .error x → _
    by_cases h0 : K i = 0
    · rw [if_pos h0, if_pos h0, if_neg (show ¬ (1 : Int32) = 0 by decide)]
      exact ⟨M, rfl, FH.rf, (fun s' h => by cases h; exact I), (fun x h => by cases h)⟩
    · rw [if_neg h0, if_neg h0, if_pos rfl]
      obtain ⟨M1, e1, f1, t1⟩ := r_tell1 hv w mP T I wf.1
      rw [e1, sb]
      cases hs : tlS K V P N (i, τ, nm, B, W, lf) with
      | error x =>
        have D := t1.2 x hs
        obtain ⟨y, rfl⟩ : ∃ y, z = y + 1 := ⟨z - 1, by omega⟩
        exact ⟨M1, by rw [f_X12_read_L112, if_neg D.1.n0], f1, (fun s' h => by cases h), (fun y h => by cases h; exact D)⟩
      | ok s1 =>
        obtain ⟨I1, hi1⟩ := t1.1 s1 hs
        obtain ⟨M2, r1, r2, r3, r4⟩ := r_tells hv w mP hV m z s1 M1 (by omega) (by omega) (T.fh f1) I1 (wf_S hV wf hs)
        exact ⟨M2, r1, f1.tr r2, r3, r4⟩
end LPS

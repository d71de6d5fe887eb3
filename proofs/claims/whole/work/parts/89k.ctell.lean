-- 89k.ctell: pure: what the class does at a tell
section UPT
variable {τ : Nat → Nat → Nat} {f k x f' k' : Nat}
theorem upT_s : upT τ f k x f k = x := if_pos ⟨rfl, rfl⟩
theorem upT_f (h : f' ≠ f) : upT τ f k x f' k' = τ f' k' := if_neg (fun z => h z.1)
theorem upT_k (h : k' ≠ k) : upT τ f k x f' k' = τ f' k' := if_neg (fun z => h z.2)
theorem eb_ok {α β ε : Type} (a : α) (g : α → Except ε β) : (Except.ok a : Except ε α).bind g = g a := rfl
theorem eb_er {α β ε : Type} (x : ε) (g : α → Except ε β) : (Except.error x : Except ε α).bind g = .error x := rfl
end UPT
section CTL
variable {K V P : Nat → Nat} {N : Nat → Int64} {E t n i : Nat} {M M' : Mem} {nm : List (Int64 × Nat)} {lf : Nat × Nat} {τ : Nat → Nat → Nat} {B : Nat → List (Cd × Cd × Cd)} {W : Nat → Cd}
def FG (t : Nat) (M M' : Mem) : Prop := (∀ a, a ≠ 23 → a ≠ 30 → ¬ (t ≤ a ∧ a ≤ t + 9) → M'.1 a = M.1 a) ∧ (∀ a, a ≠ 29 → M'.2.1 a = M.2.1 a) ∧ M'.2.2 = M.2.2
theorem FG.rf : FG t M M := ⟨fun _ _ _ _ => rfl, fun _ _ => rfl, rfl⟩
theorem FG.tr {M1 : Mem} (h : FG t M M1) (h' : FG t M1 M') : FG t M M' := ⟨fun a p q r => (h'.1 a p q r).trans (h.1 a p q r), fun a p => (h'.2.1 a p).trans (h.2.1 a p), h'.2.2.trans h.2.2⟩
theorem FN.g (h : FN M M') : FG t M M' := ⟨fun a p q _ => h.1 a p q, h.2.1, h.2.2⟩
theorem FG.set {a j : Nat} {x : Int32} (h : t ≤ a ∧ a ≤ t + 9) : FG t M (sI M a j x) := ⟨fun b _ _ r => sI_cell (fun z => r (z ▸ h)), fun _ _ => rfl, rfl⟩
theorem tokC.fg (ht : isT t) (h : tokC K P V N E M) (f : FG t M M') : tokC K P V N E M' := by
  have := isT_le ht
  unfold tokC at h ⊢
  rw [f.1 25 (by decide) (by decide) (by omega), f.1 26 (by decide) (by decide) (by omega), f.2.1 27 (by decide)]
  exact h
/-- the town t is as it was -/
def PQ (t : Nat) (M M' : Mem) : Prop := ∀ k, k < 10 → M'.1 (t + k) = M.1 (t + k)
theorem FN.q (ht : isT t) (f : FN M M') : PQ t M M' := fun k hk => f.1 _ (by have := isT_le ht; omega) (by have := isT_le ht; omega)
def CNt (t : Nat) (τ : Nat → Nat → Nat) (M : Mem) : Prop := M.1 t 10 = nI (tC τ) ∧ M.1 t 11 = nI (tS τ) ∧ M.1 t 12 = nI (tY τ) ∧ M.1 t 13 = nI (tW τ)
def PCt (t : Nat) (τ : Nat → Nat → Nat) (M : Mem) : Prop := M.1 t 14 = nI (τ 0 6) ∧ M.1 t 15 = nI (tD τ) ∧ M.1 t 16 = nI (tE τ) ∧ (∀ s, s < tS τ → M.1 (t + 1) s = nI (τ 1 s) ∧ M.1 (t + 2) s = nI (τ 2 s) ∧ M.1 (t + 3) s = nI (τ 3 s)) ∧ (∀ y, y < tY τ → M.1 (t + 4) y = nI (τ 4 y) ∧ M.1 (t + 5) y = nI (τ 5 y) ∧ M.1 (t + 6) y = nI (τ 6 y)) ∧ ∀ w, w < tW τ → M.1 (t + 7) w = nI (τ 7 w)
def LWc (t n : Nat) (B : Nat → List (Cd × Cd × Cd)) (W : Nat → Cd) (M : Mem) : Prop := ∀ k, k < 4 → ∃ st, M.1 (t + 8) k = nI st ∧ st + lwZ (B k) (W k) ≤ n ∧ LC0 t M st (B k) (W k)
theorem CNt.q (h : CNt t τ M) (q : PQ t M M') : CNt t τ M' := by
  have e0 : M'.1 t = M.1 t := q 0 (by decide)
  unfold CNt at h ⊢
  rw [e0]
  exact h
theorem PCt.q (h : PCt t τ M) (q : PQ t M M') : PCt t τ M' := by
  have e0 : M'.1 t = M.1 t := q 0 (by decide)
  unfold PCt at h ⊢
  rw [e0, q 1 (by decide), q 2 (by decide), q 3 (by decide), q 4 (by decide), q 5 (by decide), q 6 (by decide), q 7 (by decide)]
  exact h
theorem LWc.q (h : LWc t n B W M) (q : PQ t M M') : LWc t n B W M' := fun k hk => by
  obtain ⟨st, a, b, c⟩ := h k hk
  exact ⟨st, (congrFun (q 8 (by decide)) k).trans a, b, c.of (fun z _ _ => congrFun (q 9 (by decide)) z)⟩
theorem LWc.set {a j : Nat} {x : Int32} (h : LWc t n B W M) (h8 : t + 8 ≠ a) (h9 : t + 9 ≠ a) : LWc t n B W (sI M a j x) := fun k hk => by
  obtain ⟨st, p, b, c⟩ := h k hk
  exact ⟨st, (congrFun (sI_cell h8) k).trans p, b, c.of (fun z _ _ => congrFun (sI_cell h9) z)⟩
theorem AV.set {a j : Nat} {x : Int32} (A : AV E t i n nm lf M) (h : a ≠ 23) (h2 : a ≠ 30) (h3 : a = t → j ≠ 9) : AV E t i n nm lf (sI M a j x) := by
  have c23 : (sI M a j x).1 23 = M.1 23 := sI_cell (Ne.symm h)
  have c30 : (sI M a j x).1 30 = M.1 30 := sI_cell (Ne.symm h2)
  have ct : (sI M a j x).1 t 9 = M.1 t 9 := by
    by_cases e : t = a
    · rw [← e]; exact sI_ix (Ne.symm (h3 e.symm))
    · exact congrFun (sI_cell e) 9
  unfold AV PS LFc NMc at A ⊢
  rw [c23, c30, ct]
  exact A
theorem DQ.set {e p a j : Nat} {x : Int32} (D : DQ t e p M) (h : a ≠ 23) (h3 : a = t → j ≠ 9) : DQ t e p (sI M a j x) := by
  have c23 : (sI M a j x).1 23 = M.1 23 := sI_cell (Ne.symm h)
  have ct : (sI M a j x).1 t 9 = M.1 t 9 := by
    by_cases e : t = a
    · rw [← e]; exact sI_ix (Ne.symm (h3 e.symm))
    · exact congrFun (sI_cell e) 9
  unfold DQ DD at D ⊢
  rw [c23, ct]
  exact D
/-- where the class stands between two tells -/
def CI (E t : Nat) (s : TSt) (M : Mem) : Prop := ∃ n, AV E t s.1 n s.2.2.1 s.2.2.2.2.2 M ∧ CNt t s.2.1 M ∧ (s.2.2.2.2.2.1 = 0 → PCt t s.2.1 M) ∧ LWc t n s.2.2.2.1 s.2.2.2.2.1 M
def bdS (τ : Nat → Nat → Nat) (nm : List (Int64 × Nat)) : Prop := tC τ ≤ 7 ∧ tS τ ≤ 10 ∧ tY τ ≤ 6 ∧ tW τ ≤ 5 ∧ nm.length = tC τ + tY τ + tW τ
def TO (P : Nat → Nat) (E t i : Nat) (M' : Mem) (r : Except (Nat × Nat) TSt) : Prop := (∀ s', r = .ok s' → CI E t s' M' ∧ i < s'.1) ∧ ∀ x, r = .error x → DQ t x.1 (P x.2) M'
theorem TO.er {r : Except (Nat × Nat) TSt} {x : Nat × Nat} (h : r = .error x) (D : DQ t x.1 (P x.2) M') : TO P E t i M' r := ⟨(fun s' z => by rw [h] at z; cases z), (fun y z => by rw [h] at z; cases z; exact D)⟩
/-- the ';' behind a tell -/
theorem c_semi {i' : Nat} {X : Option Mem} {r : Except (Nat × Nat) TSt} (ht : isT t) (w : wfK K P V E) (T : tokC K P V N E M) (A : AV E t i' n nm lf M) (C : CNt t τ M) (Pc : lf.1 = 0 → PCt t τ M) (Lw : LWc t n B W M) (hX : X = some M) (hi : i < i') (hr : r = (exK K 4 i').bind fun j => .ok (j, τ, nm, B, W, lf)) : ∃ M', X.bind (fun M' => f_X6_expect 59 M') = some M' ∧ FN M M' ∧ TO P E t i M' r := by
  obtain ⟨M1, e1, F1, L1, Q1, a1, a2⟩ := c_exA (k := 4) ht w T A (by omega) (by omega) (by omega)
  have e1' : f_X6_expect 59 M = some M1 := e1
  refine ⟨M1, by rw [hX, sb, e1'], F1.fn, ?_⟩
  have q := F1.fn.q ht
  cases hk : exK K 4 i' with
  | error x => exact TO.er (by rw [hr, hk]; rfl) (a2 x hk)
  | ok j =>
    obtain ⟨A1, hj⟩ := a1 j hk
    refine ⟨fun s' z => ?_, (fun y z => by rw [hr, hk] at z; cases z)⟩
    rw [hr, hk] at z
    cases z
    exact ⟨⟨n, A1, C.q q, fun z => (Pc z).q q, Lw.q q⟩, by show i < j; omega⟩
theorem fin_D {e p : Nat} {X : Option Mem} (h : X = some M) (D : DQ t e p M) : X.bind (fun M' => f_X6_expect 59 M') = some M := by
  rw [h, sb, c_expD D.1]
theorem cvN_i {c : Nat} (h : c < 10) : cvN c = nI c := if_pos h
/-- CORNER -/
theorem c_corner (ht : isT t) (w : wfK K P V E) (T : tokC K P V N E M) (I : CI E t (i, τ, nm, B, W, lf) M) (b : bdS τ nm) (hk : K i = 20) : ∃ M', (f_X6_readCorner M).bind (fun M' => f_X6_expect 59 M') = some M' ∧ FG t M M' ∧ TO P E t i M' (tlC K P N (i, τ, nm, B, W, lf)) := by
  have l8 := isT_le ht
  obtain ⟨n, A, C, Pc, Lw⟩ := I
  obtain ⟨b1, b2, b3, b4, b5⟩ := b
  have A : AV E t i n nm lf M := A
  have C : CNt t τ M := C
  have Pc : lf.1 = 0 → PCt t τ M := Pc
  have Lw : LWc t n B W M := Lw
  have hs : tlC K P N (i, τ, nm, B, W, lf) = (if 7 ≤ tC τ then .error (2, i) else exK K 20 i : Except (Nat × Nat) Nat).bind fun i1 => (exK K 1 i1).bind fun i2 => (exK K 4 i2).bind fun i3 => .ok (i3, upT τ 0 0 (tC τ + 1), nm ++ [(N i1, tC τ)], B, W, lfU lf (lkN nm (N i1)) 3 (P i1)) := by
    unfold tlC
    dsimp only
    by_cases h : 7 ≤ tC τ
    · rw [if_pos h, if_pos h]; rfl
    · rw [if_neg h, if_neg h]
  obtain ⟨M1, e1, f1, a1, a2⟩ := c_oneA (c := tC τ) (m := 7) ht w T A hk (by omega) (by omega) (by omega) (by omega)
  have e1' : f_X6_passOneOf (M.1 t 10) 7 M = some M1 := by rw [C.1]; exact e1
  have h10 : M1.1 t 10 = cvN (tC τ) := by rw [cvN_i (by omega), ← C.1]; exact congrFun (f1.1 t (by omega) (by omega)) 10
  unfold f_X6_readCorner
  rw [rT_n A.1.2.2.2 ht, sb, e1', sb]
  cases h1 : (if 7 ≤ tC τ then .error (2, i) else exK K 20 i : Except (Nat × Nat) Nat) with
  | error x =>
    have D1 := a2 x h1
    exact ⟨M1, fin_D (by rw [rT_n D1.1.2.2.2.2 ht, sb, c_takeND D1, sb, if_neg D1.1.n0]) D1, f1.g, TO.er (by rw [hs, h1, eb_er]) D1⟩
  | ok i1 =>
    have A1 := a1 i1 h1
    have h7 : tC τ < 7 := by
      rcases Nat.lt_or_ge (tC τ) 7 with q | q
      · exact q
      · rw [if_pos q] at h1; cases h1
    rw [if_neg (show ¬ 7 ≤ tC τ by omega)] at h1
    have j1 := (exK_ok h1).2.2
    obtain ⟨M2, e2, f2, p1, p2⟩ := c_takeN (c := tC τ) ht w (T.fn f1) A1 (by omega)
    have F2 := f1.tr f2
    rw [rT_n A1.1.2.2.2 ht, sb, h10, e2, sb]
    cases h2 : exK K 1 i1 with
    | error x =>
      have D2 := p2 x h2
      exact ⟨M2, fin_D (by rw [if_neg D2.1.n0]) D2, F2.g, TO.er (by rw [hs, if_neg (show ¬ 7 ≤ tC τ by omega), h1, eb_ok, h2, eb_er]) D2⟩
    | ok i2 =>
      have A2 := p1 i2 h2
      have j2 := (exK_ok h2).2.2
      have c2 := C.q (F2.q ht)
      have A3 := A2.set (a := t) (j := 10) (x := nI (tC τ + 1)) (by omega) (by omega) (fun _ => by decide)
      obtain ⟨M4, e4, f4, t4⟩ := c_semi (K := K) (V := V) (P := P) (N := N) (i := i) (τ := upT τ 0 0 (tC τ + 1)) (B := B) (W := W) (M := sI M2 t 10 (nI (tC τ + 1))) (r := tlC K P N (i, τ, nm, B, W, lf)) ht w ((T.fn F2).fg ht (FG.set (t := t) (by omega))) A3 ⟨sI_same, (sI_ix (by decide)).trans c2.2.1, (sI_ix (by decide)).trans c2.2.2.1, (sI_ix (by decide)).trans c2.2.2.2⟩ (fun z => by
        obtain ⟨q1, q2, q3, q4, q5, q6⟩ := (Pc (lfU_0 z (by omega)).1).q (F2.q ht)
        have ce : ∀ k, 1 ≤ k → (sI M2 t 10 (nI (tC τ + 1))).1 (t + k) = M2.1 (t + k) := fun k hk => sI_cell (by omega)
        refine ⟨(sI_ix (by decide)).trans q1, (sI_ix (by decide)).trans q2, (sI_ix (by decide)).trans q3, fun s hs => ?_, fun y hy => ?_, fun v hv => ?_⟩
        · rw [ce 1 (by omega), ce 2 (by omega), ce 3 (by omega)]
          exact q4 s hs
        · rw [ce 4 (by omega), ce 5 (by omega), ce 6 (by omega)]
          exact q5 y hy
        · rw [ce 7 (by omega)]
          exact q6 v hv) ((Lw.q (F2.q ht)).set (by omega) (by omega)) (X := if M2.1 23 7 = 0 then (rT M2 23 5).bind fun t8 => lt (sI M2 t8 10 ((M2.1 t8 10) + (1 : Int32))) fun M9 => some M9 else some M2) (by rw [if_pos A2.1.1, rT_n A2.1.2.2.2 ht, sb, c2.1, nI_1, lt_def]) (by omega) (by rw [hs, if_neg (show ¬ 7 ≤ tC τ by omega), h1, eb_ok, h2, eb_ok])
      exact ⟨M4, e4, (F2.g.tr (FG.set (by omega))).tr f4.g, t4⟩
/-- a number told: a word that any place may have -/
theorem c_pasA {k : Nat} (ht : isT t) (w : wfK K P V E) (T : tokC K P V N E M) (A : AV E t i n nm lf M) (hk : K i = k) (h0 : k ≠ 0) (h3 : k ≠ 3) : ∃ M', f_X6_pass M = some M' ∧ FN M M' ∧ (∀ j, exK K k i = .ok j → AV E t j n nm lf M') ∧ ∀ x : Nat × Nat, exK K k i = .error x → DQ t x.1 (P x.2) M' := by
  obtain ⟨M1, e1, f1, a1, a2⟩ := c_oneA (c := 0) (m := 1) ht w T A hk h0 h3 (by omega) (by omega)
  rw [if_neg (show ¬ 1 ≤ 0 by omega)] at a1 a2
  refine ⟨M1, ?_, f1, a1, a2⟩
  unfold f_X6_passOneOf at e1
  rw [if_pos (show nI 0 < nI 1 by decide), sb] at e1
  cases h : f_X6_pass M with
  | none => rw [h] at e1; cases e1
  | some X => rw [h, sb] at e1; exact e1
theorem addS {a b c : Int32} {s : Nat} (h : M.1 t 11 = nI s) (hs : s < 10) : f_X9_addStreet t a b c M = some (sI (sI (sI (sI M (t + 1) s a) (t + 2) s b) (t + 3) s c) t 11 (nI (s + 1))) := by
  have c1 : (sI M (t + 1) s a).1 t 11 = nI s := (congrFun (sI_cell (by omega)) 11).trans h
  have c2 : (sI (sI M (t + 1) s a) (t + 2) s b).1 t 11 = nI s := (congrFun (sI_cell (by omega)) 11).trans c1
  have c3 : (sI (sI (sI M (t + 1) s a) (t + 2) s b) (t + 3) s c).1 t 11 = nI s := (congrFun (sI_cell (by omega)) 11).trans c2
  unfold f_X9_addStreet
  rw [h, li 10, if_neg (nI_ge hs (by omega)), pg_n hs (by omega), sb, c1, pg_n hs (by omega), sb, c2, pg_n hs (by omega), sb, c3, nI_1, lt_def]
theorem addY {a b c : Int32} {s : Nat} (h : M.1 t 12 = nI s) (hs : s < 6) : f_X9_addYoung t a b c M = some (sI (sI (sI (sI M (t + 4) s a) (t + 5) s b) (t + 6) s c) t 12 (nI (s + 1))) := by
  have c1 : (sI M (t + 4) s a).1 t 12 = nI s := (congrFun (sI_cell (by omega)) 12).trans h
  have c2 : (sI (sI M (t + 4) s a) (t + 5) s b).1 t 12 = nI s := (congrFun (sI_cell (by omega)) 12).trans c1
  have c3 : (sI (sI (sI M (t + 4) s a) (t + 5) s b) (t + 6) s c).1 t 12 = nI s := (congrFun (sI_cell (by omega)) 12).trans c2
  unfold f_X9_addYoung
  rw [h, li 6, if_neg (nI_ge hs (by omega)), pg_n hs (by omega), sb, c1, pg_n hs (by omega), sb, c2, pg_n hs (by omega), sb, c3, nI_1, lt_def]
theorem addW {a : Int32} {s : Nat} (h : M.1 t 13 = nI s) (hs : s < 5) : f_X9_addWord t a M = some (sI (sI M (t + 7) s a) t 13 (nI (s + 1))) := by
  have c1 : (sI M (t + 7) s a).1 t 13 = nI s := (congrFun (sI_cell (by omega)) 13).trans h
  unfold f_X9_addWord
  rw [h, li 5, if_neg (nI_ge hs (by omega)), pg_n hs (by omega), sb, c1, nI_1, lt_def]
end CTL

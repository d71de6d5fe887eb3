-- 89p.rtell: pure: what the reference does at a tell
section RTL
variable {K V P : Nat → Nat} {N : Nat → Int64} {E v n g i : Nat} {M M' : Mem} {nm : List (Int64 × Nat)} {lf : Nat × Nat} {τ : Nat → Nat → Nat} {B : Nat → List (Cd × Cd × Cd)} {W : Nat → Cd}
/-- what belongs to side u -/
def sdR (u a i : Nat) : Prop := ((a = 77 ∨ a = 78 ∨ a = 82 ∨ a = 86 ∨ a = 88 ∨ a = 89 ∨ a = 90) ∧ i = u) ∨ ((79 ≤ a ∧ a ≤ 81) ∧ 10 * u ≤ i ∧ i < 10 * u + 10) ∨ ((83 ≤ a ∧ a ≤ 85) ∧ 6 * u ≤ i ∧ i < 6 * u + 6) ∨ (a = 87 ∧ 5 * u ≤ i ∧ i < 5 * u + 5) ∨ lwR u a i
def FH (v : Nat) (M M' : Mem) : Prop := (∀ a, a ≠ 67 → (a < 76 ∨ 100 < a) → M'.1 a = M.1 a) ∧ (∀ i, i ∉ [11, 12, 13, 14, 15, 16, 20, 39, 45, 49] → M'.1 67 i = M.1 67 i) ∧ (∀ a i, sdR (1 - v) a i → M'.1 a i = M.1 a i) ∧ (∀ a, a ≠ 75 → M'.2.1 a = M.2.1 a) ∧ M'.2.2 = M.2.2
theorem FH.rf : FH v M M := ⟨fun _ _ _ => rfl, fun _ _ => rfl, fun _ _ _ => rfl, fun _ _ => rfl, rfl⟩
theorem FH.tr {M1 : Mem} (h : FH v M M1) (h' : FH v M1 M') : FH v M M' := ⟨fun a p q => (h'.1 a p q).trans (h.1 a p q), fun i p => (h'.2.1 i p).trans (h.2.1 i p), fun a i p => (h'.2.2.1 a i p).trans (h.2.2.1 a i p), fun a p => (h'.2.2.2.1 a p).trans (h.2.2.2.1 a p), h'.2.2.2.2.trans h.2.2.2.2⟩
theorem sdR_67 {u a i : Nat} (h : sdR u a i) : 77 ≤ a ∧ a ≤ 99 := by
  unfold sdR lwR at h
  omega
theorem FK.h (f : FK M M') : FH v M M' := by
  refine ⟨fun a p q => f.1 a p (by omega), fun i p => ?_, fun a i h => ?_, f.2.2.1, f.2.2.2⟩
  · simp only [List.mem_cons, List.not_mem_nil, or_false, not_or] at p
    exact f.2.1 i p.1 p.2.2.1 p.2.2.2.1 p.2.2.2.2.1 p.2.2.2.2.2.1 p.2.2.2.2.2.2.1
  · have := sdR_67 h
    rw [f.1 a (by omega) (by omega)]
theorem FH.wr {a j : Nat} {x : Int32} (ha : 77 ≤ a) (hb : a ≤ 99) (h : ¬ sdR (1 - v) a j) : FH v M (sI M a j x) := by
  refine ⟨fun b p q => sI_cell (by omega), fun i _ => congrFun (sI_cell (by omega)) i, fun b i p => ?_, fun _ _ => rfl, rfl⟩
  by_cases e : b = a
  · subst e
    exact sI_ix (fun z => h (z ▸ p))
  · exact congrFun (sI_cell e) i
theorem QL.h {x : Nat} (hv : v ≤ 1) (hx : x < 4) (hg : 130 * v ≤ g) (hn : 420 * v ≤ n) (f : QL v x g n M M') : FH v M M' := by
  refine ⟨fun a p q => f.1 a p (by omega), fun i p => f.2.1 i (fun z => p ?_), fun a i h => ?_, fun a _ => by rw [f.2.2.2.2.2], by rw [f.2.2.2.2.2]⟩
  · simp only [List.mem_cons, List.not_mem_nil, or_false] at z ⊢
    omega
  · have h67 := sdR_67 h
    rcases Nat.lt_or_ge a 91 with q | q
    · rw [f.1 a (by omega) (by omega)]
    · unfold sdR lwR at h
      rcases Nat.lt_or_ge a 93 with q3 | q3
      · exact f.2.2.1 a (by omega) i (by omega)
      · rcases Nat.lt_or_ge a 98 with q8 | q8
        · exact f.2.2.2.1 a (by omega) (by omega) i (by omega)
        · have := f.2.2.2.2.1 i (by omega)
          rcases (by omega : a = 98 ∨ a = 99) with z | z <;> rw [z]
          · exact this.1
          · exact this.2
theorem tokM.fh (h : tokM K P V N E M) (f : FH v M M') : tokM K P V N E M' := by
  unfold tokM at h ⊢
  rw [f.1 70 (by decide) (by decide), f.1 71 (by decide) (by decide), f.1 72 (by decide) (by decide), f.2.2.2.1 73 (by decide)]
  exact h
theorem AM.wr {a j : Nat} {x : Int32} (A : AM P E v i g n nm lf M) (h : a ≠ 67) (h2 : a ≠ 76) : AM P E v i g n nm lf (sI M a j x) := by
  have c67 : (sI M a j x).1 67 = M.1 67 := sI_cell (Ne.symm h)
  have c76 : (sI M a j x).1 76 = M.1 76 := sI_cell (Ne.symm h2)
  unfold AM GS LFm NMm at A ⊢
  rw [c67, c76]
  exact A
theorem DM.wr {e p a j : Nat} {x : Int32} (D : DM e p v M) (h : a ≠ 67) : DM e p v (sI M a j x) := ⟨D.1.wr h, (congrFun (sI_cell (Ne.symm h)) 19).trans D.2⟩
def PQm (M M' : Mem) : Prop := ∀ a, 77 ≤ a → a ≤ 99 → M'.1 a = M.1 a
theorem FK.q (f : FK M M') : PQm M M' := fun a p q => f.1 a (by omega) (by omega)
def CNm (v : Nat) (τ : Nat → Nat → Nat) (M : Mem) : Prop := M.1 77 v = nI (tC τ) ∧ M.1 78 v = nI (tS τ) ∧ M.1 82 v = nI (tY τ) ∧ M.1 86 v = nI (tW τ)
def PCm (v : Nat) (τ : Nat → Nat → Nat) (M : Mem) : Prop := M.1 88 v = nI (τ 0 6) ∧ M.1 89 v = nI (tD τ) ∧ M.1 90 v = nI (tE τ) ∧ (∀ s, s < tS τ → M.1 79 (10 * v + s) = nI (τ 1 s) ∧ M.1 80 (10 * v + s) = nI (τ 2 s) ∧ M.1 81 (10 * v + s) = nI (τ 3 s)) ∧ (∀ y, y < tY τ → M.1 83 (6 * v + y) = nI (τ 4 y) ∧ M.1 84 (6 * v + y) = nI (τ 5 y) ∧ M.1 85 (6 * v + y) = nI (τ 6 y)) ∧ ∀ w, w < tW τ → M.1 87 (5 * v + w) = nI (τ 7 w)
def LWm (v g n : Nat) (B : Nat → List (Cd × Cd × Cd)) (W : Nat → Cd) (M : Mem) : Prop := ∀ k, k < 4 → (∃ f, M.1 91 (4 * v + k) = nI f ∧ M.1 92 (4 * v + k) = nI (f + (B k).length + 1) ∧ f + (B k).length + 1 ≤ g ∧ LMs v f n (B k) (W k) M) ∨ (M.1 91 (4 * v + k) = M.1 92 (4 * v + k) ∧ B k = [] ∧ W k = dfC k)
theorem CNm.q (h : CNm v τ M) (q : PQm M M') : CNm v τ M' := by
  unfold CNm at h ⊢
  rw [q 77 (by decide) (by decide), q 78 (by decide) (by decide), q 82 (by decide) (by decide), q 86 (by decide) (by decide)]
  exact h
theorem PCm.q (h : PCm v τ M) (q : PQm M M') : PCm v τ M' := by
  unfold PCm at h ⊢
  rw [q 88 (by decide) (by decide), q 89 (by decide) (by decide), q 90 (by decide) (by decide), q 79 (by decide) (by decide), q 80 (by decide) (by decide), q 81 (by decide) (by decide), q 83 (by decide) (by decide), q 84 (by decide) (by decide), q 85 (by decide) (by decide), q 87 (by decide) (by decide)]
  exact h
theorem LMs.of {f n' : Nat} {b : List (Cd × Cd × Cd)} {c : Cd} (h : LMs v f n' b c M) (h1 : ∀ a q, 93 ≤ a → a ≤ 97 → q < f + b.length + 1 → M'.1 a q = M.1 a q) (h2 : ∀ q, q < n' → M'.1 98 q = M.1 98 q ∧ M'.1 99 q = M.1 99 q) (hn : n' ≤ n) : LMs v f n b c M' := fun M2 a1 a2 => h M2 (fun a q x y z => (a1 a q x y z).trans (h1 a q x y z)) (fun q hq => ⟨(a2 q (by omega)).1.trans (h2 q hq).1, (a2 q (by omega)).2.trans (h2 q hq).2⟩)
theorem LWm.lw (h : LWm v g n B W M) (q : ∀ a, 91 ≤ a → a ≤ 99 → M'.1 a = M.1 a) : LWm v g n B W M' := fun k hk => by
  rcases h k hk with ⟨f, a, b, c, d⟩ | ⟨a, b⟩
  · exact Or.inl ⟨f, by rw [q 91 (by decide) (by decide)]; exact a, by rw [q 92 (by decide) (by decide)]; exact b, c, d.of (fun a z p r _ => by rw [q a (by omega) (by omega)]) (fun z _ => by rw [q 98 (by decide) (by decide), q 99 (by decide) (by decide)]; exact ⟨rfl, rfl⟩) (Nat.le_refl _)⟩
  · exact Or.inr ⟨by rw [q 91 (by decide) (by decide), q 92 (by decide) (by decide)]; exact a, b⟩
/-- where the reference stands between two tells -/
def RI (P : Nat → Nat) (E v : Nat) (s : TSt) (M : Mem) : Prop := ∃ g n, AM P E v s.1 g n s.2.2.1 s.2.2.2.2.2 M ∧ CNm v s.2.1 M ∧ (s.2.2.2.2.2.1 = 0 → PCm v s.2.1 M) ∧ LWm v g n s.2.2.2.1 s.2.2.2.2.1 M
def TP (P : Nat → Nat) (E v i : Nat) (M' : Mem) (r : Except (Nat × Nat) TSt) : Prop := (∀ s', r = .ok s' → RI P E v s' M' ∧ i < s'.1) ∧ ∀ x, r = .error x → DM x.1 (P x.2) v M'
theorem TP.er {r : Except (Nat × Nat) TSt} {x : Nat × Nat} (h : r = .error x) (D : DM x.1 (P x.2) v M') : TP P E v i M' r := ⟨(fun s' z => by rw [h] at z; cases z), (fun y z => by rw [h] at z; cases z; exact D)⟩
theorem TP.mk {r : Except (Nat × Nat) TSt} {i' : Nat} (h : r = .ok (i', τ, nm, B, W, lf)) (A : AM P E v i' g n nm lf M') (C : CNm v τ M') (Pc : lf.1 = 0 → PCm v τ M') (L : LWm v g n B W M') (hi : i < i') : TP P E v i M' r := ⟨(fun s' z => by rw [h] at z; cases z; exact ⟨⟨g, n, A, C, Pc, L⟩, hi⟩), (fun y z => by rw [h] at z; cases z)⟩
def rUp (a : Nat) (M : Mem) : Option Mem := if M.1 67 13 = 0 then (ag M a 2 (M.1 67 19)).bind fun v13 => (pg M a 2 (M.1 67 19) (v13 + (1 : Int32))).bind fun M14 => some M14 else some M
theorem rUp_A {a c : Nat} (hv : v ≤ 1) (h0 : M.1 67 13 = 0) (h19 : M.1 67 19 = nI v) (hc : M.1 a v = nI c) : rUp a M = some (sI M a v (nI (c + 1))) := by
  unfold rUp
  rw [if_pos h0, h19, ag_n (by omega) (by omega), sb, hc, nI_1, pg_n (by omega) (by omega), sb]
theorem rUp_D {a e p : Nat} (D : DM e p v M) : rUp a M = some M := by
  unfold rUp
  rw [if_neg D.1.n0]
def rC1 (M : Mem) : Option Mem := (f_X12_named M).bind fun t8 => (ag t8.2 77 2 (t8.2.1 67 19)).bind fun v9 => (f_X12_endsName t8.1 v9 t8.2).bind fun M11 => rUp 77 M11
theorem nsd {a : Nat} (hv : v ≤ 1) (ha : a = 77 ∨ a = 78 ∨ a = 82 ∨ a = 86 ∨ a = 88 ∨ a = 89 ∨ a = 90) : ¬ sdR (1 - v) a v := by
  unfold sdR lwR
  omega
/-- CORNER -/
theorem r_corner (hv : v ≤ 1) (w : wfK K P V E) (mP : ∀ a, a < E → P a < P (a + 1)) (T : tokM K P V N E M) (I : RI P E v (i, τ, nm, B, W, lf) M) (b : bdS τ nm) (hk : K i = 20) : ∃ M', f_X12_tellOne M = some M' ∧ FH v M M' ∧ TP P E v i M' (tlC K P N (i, τ, nm, B, W, lf)) := by
  have hE := w.1
  obtain ⟨g, n, A, C, Pc, Lw⟩ := I
  obtain ⟨b1, b2, b3, b4, b5⟩ := b
  have A : AM P E v i g n nm lf M := A
  have C : CNm v τ M := C
  have Pc : lf.1 = 0 → PCm v τ M := Pc
  have Lw : LWm v g n B W M := Lw
  have hiE := A.2.2.2.2.2.1
  have hs : tlC K P N (i, τ, nm, B, W, lf) = (if 7 ≤ tC τ then .error (2, i) else exK K 20 i : Except (Nat × Nat) Nat).bind fun i1 => (exK K 1 i1).bind fun i2 => (exK K 4 i2).bind fun i3 => .ok (i3, upT τ 0 0 (tC τ + 1), nm ++ [(N i1, tC τ)], B, W, lfU lf (lkN nm (N i1)) 3 (P i1)) := by
    unfold tlC
    dsimp only
    by_cases h : 7 ≤ tC τ
    · rw [if_pos h, if_pos h]; rfl
    · rw [if_neg h, if_neg h]
  obtain ⟨M1, e1, f1, a1, a2⟩ := r_room (c := tC τ) (m := 7) w mP T A hk (by omega) (by omega) (by omega) (by omega)
  have e1' : f_X12_roomFor (nI (tC τ)) 7 M = some M1 := e1
  have hr : f_X12_tellOne M = if M1.1 67 13 ≤ 0 then rC1 M1 else some M1 := by
    unfold f_X12_tellOne
    rw [A.1.2.1, ag_n (by omega) (by omega), sb, (T i hiE).1, hk, if_pos (show nI 20 = 20 from rfl), A.2.1, ag_n (by omega) (by omega), sb, C.1, e1', sb]
    rfl
  rw [hr]
  cases h1 : (if 7 ≤ tC τ then .error (2, i) else exK K 20 i : Except (Nat × Nat) Nat) with
  | error x =>
    have D1 := a2 x h1
    rw [if_neg D1.1.nl]
    exact ⟨M1, rfl, f1.h, TP.er (by rw [hs, h1, eb_er]) D1⟩
  | ok i1 =>
    have A1 := a1 i1 h1
    have h7 : tC τ < 7 := by
      rcases Nat.lt_or_ge (tC τ) 7 with q | q
      · exact q
      · rw [if_pos q] at h1; cases h1
    have hn7 : ¬ 7 ≤ tC τ := by omega
    rw [if_neg hn7] at h1
    have j1 := (exK_ok h1).2.2
    have hi1 := A1.2.2.2.2.2.1
    obtain ⟨M2, e2, f2, p1, p2⟩ := r_namA w mP (T.fk f1) A1
    have F2 := f1.tr f2
    have c2 := C.q F2.q
    rw [if_pos (show M1.1 67 13 ≤ 0 by rw [A1.1.1]; decide)]
    have run : ∀ {X A}, M2.1 67 19 = nI v → f_X12_endsName (nI i1) (nI (tC τ)) M2 = some X → rUp 77 X = A → rC1 M1 = A := fun {X A} h h' h'' => by
      unfold rC1
      rw [e2, sb, h, ag_n (by omega) (by omega), sb, c2.1, h', sb, h'']
    cases h2 : exK K 1 i1 with
    | error x =>
      have D2 := p2 x h2
      exact ⟨M2, run D2.2 (r_endD D2) (rUp_D D2), F2.h, TP.er (by rw [hs, if_neg hn7, h1, eb_ok, h2, eb_er]) D2⟩
    | ok i2 =>
      have A2 := p1 i2 h2
      have j2 := (exK_ok h2).2.2
      obtain ⟨M3, e3, f3, q1, q2⟩ := r_endA (c := tC τ) (i1 := i1) w mP (T.fk F2) A2 (by omega) (by omega) hi1 (exK_ok h2).1
      have F3 := F2.tr f3
      cases h3 : exK K 4 i2 with
      | error x =>
        have D3 := q2 x h3
        exact ⟨M3, run A2.2.1 e3 (rUp_D D3), F3.h, TP.er (by rw [hs, if_neg hn7, h1, eb_ok, h2, eb_ok, h3, eb_er]) D3⟩
      | ok i3 =>
        obtain ⟨A3, j3⟩ := q1 i3 h3
        have c3 := C.q F3.q
        have l3 : LWm v g n B W (sI M3 77 v (nI (tC τ + 1))) := Lw.lw (fun a p q => (sI_cell (by omega)).trans (F3.q a (by omega) (by omega)))
        refine ⟨_, run A2.2.1 e3 (rUp_A hv A3.1.1 A3.2.1 c3.1), F3.h.tr (FH.wr (by omega) (by omega) (nsd hv (Or.inl rfl))), TP.mk (τ := upT τ 0 0 (tC τ + 1)) (by rw [hs, if_neg hn7, h1, eb_ok, h2, eb_ok, h3, eb_ok]) (A3.wr (by decide) (by decide)) ⟨sI_same, (congrFun (sI_cell (by decide)) v).trans c3.2.1, (congrFun (sI_cell (by decide)) v).trans c3.2.2.1, (congrFun (sI_cell (by decide)) v).trans c3.2.2.2⟩ (fun z => ?_) l3 (by omega)⟩
        have q := (Pc (lfU_0 z (by omega)).1).q F3.q
        unfold PCm at q ⊢
        have ce : ∀ a, a ≠ 77 → (sI M3 77 v (nI (tC τ + 1))).1 a = M3.1 a := fun a ha => sI_cell ha
        rw [ce 88 (by decide), ce 89 (by decide), ce 90 (by decide), ce 79 (by decide), ce 80 (by decide), ce 81 (by decide), ce 83 (by decide), ce 84 (by decide), ce 85 (by decide), ce 87 (by decide)]
        exact q
def rW1 (M : Mem) : Option Mem := (f_X12_named M).bind fun t35 => (ag t35.2 86 2 (t35.2.1 67 19)).bind fun v36 => (f_X12_bounded (0 : Int32) (99 : Int32) t35.2).bind fun t38 => (pg t38.2 87 10 (((5 : Int32) * (t35.2.1 67 19)) + v36) t38.1).bind fun M39 => (f_X12_endsName t35.1 (10 : Int32) M39).bind fun M41 => rUp 86 M41
theorem ix_m (a b c : Nat) : nI a * nI b + nI c = nI (a * b + c) := by
  rw [show nI a * nI b = nI (a * b) from (Int32.ofNat_mul a b).symm, nI_add]
/-- WORD -/
theorem r_wordT (hv : v ≤ 1) (w : wfK K P V E) (mP : ∀ a, a < E → P a < P (a + 1)) (T : tokM K P V N E M) (I : RI P E v (i, τ, nm, B, W, lf) M) (b : bdS τ nm) (hk : K i = 23) : ∃ M', f_X12_tellOne M = some M' ∧ FH v M M' ∧ TP P E v i M' (tlW K V P N (i, τ, nm, B, W, lf)) := by
  have hE := w.1
  obtain ⟨g, n, A, C, Pc, Lw⟩ := I
  obtain ⟨b1, b2, b3, b4, b5⟩ := b
  have A : AM P E v i g n nm lf M := A
  have C : CNm v τ M := C
  have Pc : lf.1 = 0 → PCm v τ M := Pc
  have Lw : LWm v g n B W M := Lw
  have hiE := A.2.2.2.2.2.1
  have hs : tlW K V P N (i, τ, nm, B, W, lf) = (if 5 ≤ tW τ then .error (2, i) else exK K 23 i : Except (Nat × Nat) Nat).bind fun i1 => (exK K 1 i1).bind fun i2 => (exK K 2 i2).bind fun i3 => (exK K 4 i3).bind fun i4 => .ok (i4, upT (upT τ 7 (tW τ) (V i2)) 0 3 (tW τ + 1), nm ++ [(N i1, 10)], B, W, inS V P 0 99 i2 (lfU lf (lkN nm (N i1)) 3 (P i1))) := by
    unfold tlW
    dsimp only
    by_cases h : 5 ≤ tW τ
    · rw [if_pos h, if_pos h]; rfl
    · rw [if_neg h, if_neg h]
  obtain ⟨M1, e1, f1, a1, a2⟩ := r_room (c := tW τ) (m := 5) w mP T A hk (by omega) (by omega) (by omega) (by omega)
  have e1' : f_X12_roomFor (nI (tW τ)) 5 M = some M1 := e1
  have hr : f_X12_tellOne M = if M1.1 67 13 ≤ 0 then rW1 M1 else some M1 := by
    unfold f_X12_tellOne
    rw [A.1.2.1, ag_n (by omega) (by omega), sb, (T i hiE).1, hk, if_neg (show ¬ nI 23 = 20 by decide), if_neg (show ¬ nI 23 = 21 by decide), if_neg (show ¬ nI 23 = 22 by decide), if_pos (show nI 23 = 23 from rfl), A.2.1, ag_n (by omega) (by omega), sb, C.2.2.2, e1', sb]
    rfl
  rw [hr]
  cases h1 : (if 5 ≤ tW τ then .error (2, i) else exK K 23 i : Except (Nat × Nat) Nat) with
  | error x =>
    have D1 := a2 x h1
    rw [if_neg D1.1.nl]
    exact ⟨M1, rfl, f1.h, TP.er (by rw [hs, h1, eb_er]) D1⟩
  | ok i1 =>
    have A1 := a1 i1 h1
    have h7 : tW τ < 5 := by
      rcases Nat.lt_or_ge (tW τ) 5 with q | q
      · exact q
      · rw [if_pos q] at h1; cases h1
    have hn7 : ¬ 5 ≤ tW τ := by omega
    rw [if_neg hn7] at h1
    have j1 := (exK_ok h1).2.2
    have hi1 := A1.2.2.2.2.2.1
    have ns : ¬ sdR (1 - v) 87 (5 * v + tW τ) := by unfold sdR lwR; omega
    obtain ⟨M2, e2, f2, p1, p2⟩ := r_namA w mP (T.fk f1) A1
    have F2 := f1.tr f2
    have c2 := C.q F2.q
    rw [if_pos (show M1.1 67 13 ≤ 0 by rw [A1.1.1]; decide)]
    have run : ∀ {X Y A y}, M2.1 67 19 = nI v → f_X12_bounded 0 99 M2 = some (y, X) → f_X12_endsName (nI i1) 10 (sI X 87 (5 * v + tW τ) y) = some Y → rUp 86 Y = A → rW1 M1 = A := fun {X Y A y} h h' h'' h3 => by
      unfold rW1
      rw [e2, sb, h, ag_n (by omega) (by omega), sb, c2.2.2.2, h', sb, show (5 : Int32) = nI 5 from rfl, ix_m, pg_n (by omega) (by omega), sb, h'', sb, h3]
    cases h2 : exK K 1 i1 with
    | error x =>
      have D2 := p2 x h2
      have D3 := D2.wr (a := 87) (j := 5 * v + tW τ) (x := 0) (by decide)
      exact ⟨_, run D2.2 (r_boD D2) (r_endD D3) (rUp_D D3), F2.h.tr (FH.wr (by omega) (by omega) ns), TP.er (by rw [hs, if_neg hn7, h1, eb_ok, h2, eb_er]) D3⟩
    | ok i2 =>
      have A2 := p1 i2 h2
      have j2 := (exK_ok h2).2.2
      obtain ⟨y, M3, e3, f3, u1, u2⟩ := r_boA (a := 0) (b := 99) w mP (T.fk F2) A2 (by omega) (by omega)
      have e3' : f_X12_bounded 0 99 M2 = some (y, M3) := e3
      have F3 := F2.tr f3
      have G4 : FH v M3 (sI M3 87 (5 * v + tW τ) y) := FH.wr (by omega) (by omega) ns
      cases h3 : exK K 2 i2 with
      | error x =>
        have D3 := (u2 x h3).wr (a := 87) (j := 5 * v + tW τ) (x := y) (by decide)
        exact ⟨_, run A2.2.1 e3' (r_endD D3) (rUp_D D3), F3.h.tr G4, TP.er (by rw [hs, if_neg hn7, h1, eb_ok, h2, eb_ok, h3, eb_er]) D3⟩
      | ok i3 =>
        obtain ⟨A3, hy⟩ := u1 i3 h3
        have j3 := (exK_ok h3).2.2
        have A4 := A3.wr (a := 87) (j := 5 * v + tW τ) (x := y) (by decide) (by decide)
        obtain ⟨M5, e5, f5, q1, q2⟩ := r_endA (c := 10) (i1 := i1) w mP ((T.fk F3).fh G4) A4 (by omega) (by omega) hi1 (exK_ok h2).1
        have e5' : f_X12_endsName (nI i1) 10 (sI M3 87 (5 * v + tW τ) y) = some M5 := e5
        have G5 := (F3.h.tr G4).tr (f5.h (v := v))
        have k5 : ∀ a, 77 ≤ a → a ≤ 99 → a ≠ 87 → M5.1 a = M.1 a := fun a p q r => (f5.q a p q).trans ((sI_cell r).trans (F3.q a p q))
        cases h4 : exK K 4 i3 with
        | error x =>
          have D5 := q2 x h4
          exact ⟨M5, run A2.2.1 e3' e5' (rUp_D D5), G5, TP.er (by rw [hs, if_neg hn7, h1, eb_ok, h2, eb_ok, h3, eb_ok, h4, eb_er]) D5⟩
        | ok i4 =>
          obtain ⟨A5, j4⟩ := q1 i4 h4
          have c86 : M5.1 86 v = nI (tW τ) := by rw [k5 86 (by decide) (by decide) (by decide)]; exact C.2.2.2
          have k6 : ∀ a, 77 ≤ a → a ≤ 99 → a ≠ 87 → a ≠ 86 → (sI M5 86 v (nI (tW τ + 1))).1 a = M.1 a := fun a p q r s => (sI_cell s).trans (k5 a p q r)
          have k87 : (sI M5 86 v (nI (tW τ + 1))).1 87 = (sI M3 87 (5 * v + tW τ) y).1 87 := (sI_cell (by decide)).trans (f5.q 87 (by decide) (by decide))
          have e' : ∀ f k, f ≠ 0 → f ≠ 7 → upT (upT τ 7 (tW τ) (V i2)) 0 3 (tW τ + 1) f k = τ f k := fun f k h0 h4 => (upT_f h0).trans (upT_f h4)
          have e0 : ∀ k, k ≠ 3 → upT (upT τ 7 (tW τ) (V i2)) 0 3 (tW τ + 1) 0 k = τ 0 k := fun k hk => (upT_k hk).trans (upT_f (by decide))
          refine ⟨_, run A2.2.1 e3' e5' (rUp_A hv A5.1.1 A5.2.1 c86), G5.tr (FH.wr (by omega) (by omega) (nsd hv (by omega))), TP.mk (τ := upT (upT τ 7 (tW τ) (V i2)) 0 3 (tW τ + 1)) (by rw [hs, if_neg hn7, h1, eb_ok, h2, eb_ok, h3, eb_ok, h4, eb_ok]) (A5.wr (by decide) (by decide)) ⟨?_, ?_, ?_, sI_same⟩ (fun z => ?_) (Lw.lw (fun a p q => k6 a (by omega) q (by omega) (by omega))) (by omega)⟩
          · rw [k6 77 (by decide) (by decide) (by decide) (by decide)]
            exact C.1.trans (congrArg nI (e0 0 (by decide)).symm)
          · rw [k6 78 (by decide) (by decide) (by decide) (by decide)]
            exact C.2.1.trans (congrArg nI (e0 1 (by decide)).symm)
          · rw [k6 82 (by decide) (by decide) (by decide) (by decide)]
            exact C.2.2.1.trans (congrArg nI (e0 2 (by decide)).symm)
          · obtain ⟨z1, -, -⟩ := inS_0 z
            obtain ⟨q1, q2, q3, q4, q5, q6⟩ := Pc (lfU_0 z1 (by omega)).1
            have q3' := (F3.q 87 (by decide) (by decide))
            refine ⟨?_, ?_, ?_, fun s hs' => ?_, fun y' hy' => ?_, fun u hu => ?_⟩
            · rw [k6 88 (by decide) (by decide) (by decide) (by decide)]
              exact q1.trans (congrArg nI (e0 6 (by decide)).symm)
            · rw [k6 89 (by decide) (by decide) (by decide) (by decide)]
              exact q2.trans (congrArg nI (e0 4 (by decide)).symm)
            · rw [k6 90 (by decide) (by decide) (by decide) (by decide)]
              exact q3.trans (congrArg nI (e0 5 (by decide)).symm)
            · have hs' : s < tS τ := Nat.lt_of_lt_of_eq hs' (e0 1 (by decide))
              rw [k6 79 (by decide) (by decide) (by decide) (by decide), k6 80 (by decide) (by decide) (by decide) (by decide), k6 81 (by decide) (by decide) (by decide) (by decide), e' 1 s (by decide) (by decide), e' 2 s (by decide) (by decide), e' 3 s (by decide) (by decide)]
              exact q4 s hs'
            · have hy' : y' < tY τ := Nat.lt_of_lt_of_eq hy' (e0 2 (by decide))
              rw [k6 83 (by decide) (by decide) (by decide) (by decide), k6 84 (by decide) (by decide) (by decide) (by decide), k6 85 (by decide) (by decide) (by decide) (by decide), e' 4 y' (by decide) (by decide), e' 5 y' (by decide) (by decide), e' 6 y' (by decide) (by decide)]
              exact q5 y' hy'
            · have hu : u < tW τ + 1 := hu
              rw [k87]
              by_cases e : u = tW τ
              · subst e
                refine sI_same.trans ?_
                rw [hy]
                simp [upT]
              · rw [show upT (upT τ 7 (tW τ) (V i2)) 0 3 (tW τ + 1) 7 u = τ 7 u from (upT_f (by decide)).trans (upT_k e), ← q6 u (by omega), ← q3']
                exact sI_ix (by omega)
end RTL

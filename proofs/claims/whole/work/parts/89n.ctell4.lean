-- 89n.ctell4: pure: the start, numbers and laws, as the class reads them; a whole tell
section CTZ
variable {K V P : Nat → Nat} {N : Nat → Int64} {E t n i : Nat} {M M' : Mem} {nm : List (Int64 × Nat)} {lf : Nat × Nat} {τ : Nat → Nat → Nat} {B : Nat → List (Cd × Cd × Cd)} {W : Nat → Cd}
/-- one word of the town, j from 14 to 16 -/
theorem PCt.w {j f x : Nat} {v : Int32} (h : PCt t τ M) (hf : (j = 14 ∧ f = 6) ∨ (j = 15 ∧ f = 4) ∨ (j = 16 ∧ f = 5)) (hv : v = nI x) : PCt t (upT τ 0 f x) (sI M t j v) := by
  obtain ⟨q1, q2, q3, q4, q5, q6⟩ := h
  have ce : ∀ k, 1 ≤ k → (sI M t j v).1 (t + k) = M.1 (t + k) := fun k hk => sI_cell (by omega)
  have e' : ∀ g k, g ≠ 0 → upT τ 0 f x g k = τ g k := fun g k hg => upT_f hg
  have e0 : ∀ k, k ≠ f → upT τ 0 f x 0 k = τ 0 k := fun k hk => upT_k hk
  refine ⟨?_, ?_, ?_, fun s hs => ?_, fun y hy => ?_, fun u hu => ?_⟩
  · rcases hf with ⟨rfl, rfl⟩ | ⟨rfl, rfl⟩ | ⟨rfl, rfl⟩
    · exact (sI_same.trans hv).trans (congrArg nI upT_s.symm)
    · exact ((sI_ix (by decide)).trans q1).trans (congrArg nI (e0 6 (by decide)).symm)
    · exact ((sI_ix (by decide)).trans q1).trans (congrArg nI (e0 6 (by decide)).symm)
  · rcases hf with ⟨rfl, rfl⟩ | ⟨rfl, rfl⟩ | ⟨rfl, rfl⟩
    · exact ((sI_ix (by decide)).trans q2).trans (congrArg nI (e0 4 (by decide)).symm)
    · exact (sI_same.trans hv).trans (congrArg nI upT_s.symm)
    · exact ((sI_ix (by decide)).trans q2).trans (congrArg nI (e0 4 (by decide)).symm)
  · rcases hf with ⟨rfl, rfl⟩ | ⟨rfl, rfl⟩ | ⟨rfl, rfl⟩
    · exact ((sI_ix (by decide)).trans q3).trans (congrArg nI (e0 5 (by decide)).symm)
    · exact ((sI_ix (by decide)).trans q3).trans (congrArg nI (e0 5 (by decide)).symm)
    · exact (sI_same.trans hv).trans (congrArg nI upT_s.symm)
  · have hs : s < tS τ := Nat.lt_of_lt_of_eq hs (e0 1 (by omega))
    rw [ce 1 (by omega), ce 2 (by omega), ce 3 (by omega), e' 1 s (by decide), e' 2 s (by decide), e' 3 s (by decide)]
    exact q4 s hs
  · have hy : y < tY τ := Nat.lt_of_lt_of_eq hy (e0 2 (by omega))
    rw [ce 4 (by omega), ce 5 (by omega), ce 6 (by omega), e' 4 y (by decide), e' 5 y (by decide), e' 6 y (by decide)]
    exact q5 y hy
  · have hu : u < tW τ := Nat.lt_of_lt_of_eq hu (e0 3 (by omega))
    rw [ce 7 (by omega), e' 7 u (by decide)]
    exact q6 u hu
theorem CNt.w {j f x : Nat} {v : Int32} (h : CNt t τ M) (hf : (j = 14 ∧ f = 6) ∨ (j = 15 ∧ f = 4) ∨ (j = 16 ∧ f = 5)) : CNt t (upT τ 0 f x) (sI M t j v) := by
  have e0 : ∀ k, k ≠ f → upT τ 0 f x 0 k = τ 0 k := fun k hk => upT_k hk
  exact ⟨((sI_ix (by omega)).trans h.1).trans (congrArg nI (e0 0 (by omega)).symm), ((sI_ix (by omega)).trans h.2.1).trans (congrArg nI (e0 1 (by omega)).symm), ((sI_ix (by omega)).trans h.2.2.1).trans (congrArg nI (e0 2 (by omega)).symm), ((sI_ix (by omega)).trans h.2.2.2).trans (congrArg nI (e0 3 (by omega)).symm)⟩
def cB1 (M : Mem) : Option Mem := (f_X6_pass M).bind fun M25 => (rT M25 23 5).bind fun t26 => (f_X6_takeCorner M25).bind fun t28 => lt (sI t28.2 t26 14 t28.1) fun M29 => some M29
/-- START -/
theorem c_startT (ht : isT t) (w : wfK K P V E) (T : tokC K P V N E M) (I : CI E t (i, τ, nm, B, W, lf) M) (hk : K i = 24) : ∃ M', (cB1 M).bind (fun M' => f_X6_expect 59 M') = some M' ∧ FG t M M' ∧ TO P E t i M' (tlB K P N (i, τ, nm, B, W, lf)) := by
  have l8 := isT_le ht
  obtain ⟨n, A, C, Pc, Lw⟩ := I
  have A : AV E t i n nm lf M := A
  have C : CNt t τ M := C
  have Pc : lf.1 = 0 → PCt t τ M := Pc
  have Lw : LWc t n B W M := Lw
  have hs : tlB K P N (i, τ, nm, B, W, lf) = (exK K 24 i).bind fun i1 => (exK K 1 i1).bind fun i2 => (exK K 4 i2).bind fun i3 => .ok (i3, upT τ 0 6 ((lkM nm (N i1)).getD 0), nm, B, W, cnS P N nm i1 lf) := rfl
  obtain ⟨M1, e1, f1, a1, a2⟩ := c_pasA ht w T A hk (by omega) (by omega)
  have run : ∀ {v X}, M1.2.2 23 5 = some t → f_X6_takeCorner M1 = some (v, X) → cB1 M = some (sI X t 14 v) := fun {v X} h5 h => by
    unfold cB1
    rw [e1, sb, rT_n h5 ht, sb, h, sb, lt_def]
  cases h1 : exK K 24 i with
  | error x =>
    have D1 := a2 x h1
    obtain ⟨v, M2, e2, f2, D2⟩ := c_takeCD ht D1
    have D3 := D2.set (a := t) (j := 14) (x := v) (by omega) (fun _ => by decide)
    exact ⟨_, fin_D (run D1.1.2.2.2.2 e2) D3, (f1.tr f2).g.tr (FG.set (by omega)), TO.er (by rw [hs, h1, eb_er]) D3⟩
  | ok i1 =>
    have A1 := a1 i1 h1
    have j1 := (exK_ok h1).2.2
    obtain ⟨v, M2, e2, f2, p1, p2⟩ := c_takeC ht w (T.fn f1) A1
    have F2 := f1.tr f2
    have r2 := run A1.1.2.2.2 e2
    cases h2 : exK K 1 i1 with
    | error x =>
      have D3 := (p2 x h2).set (a := t) (j := 14) (x := v) (by omega) (fun _ => by decide)
      exact ⟨_, fin_D r2 D3, F2.g.tr (FG.set (by omega)), TO.er (by rw [hs, h1, eb_ok, h2, eb_er]) D3⟩
    | ok i2 =>
      obtain ⟨A2, hv⟩ := p1 i2 h2
      have j2 := (exK_ok h2).2.2
      have A3 := A2.set (a := t) (j := 14) (x := v) (by omega) (by omega) (fun _ => by decide)
      obtain ⟨M7, e7, f7, t7⟩ := c_semi (K := K) (V := V) (P := P) (N := N) (i := i) (τ := upT τ 0 6 ((lkM nm (N i1)).getD 0)) (B := B) (W := W) (r := tlB K P N (i, τ, nm, B, W, lf)) ht w ((T.fn F2).fg ht (FG.set (t := t) (by omega))) A3 ((C.q (F2.q ht)).w (Or.inl ⟨rfl, rfl⟩)) (fun z => by
        obtain ⟨z1, z2⟩ := cnS_0 z
        refine ((Pc z1).q (F2.q ht)).w (Or.inl ⟨rfl, rfl⟩) ?_
        rw [hv z1]
        cases hl : lkM nm (N i1) with
        | none => rw [hl] at z2; cases z2
        | some c => rfl) ((Lw.q (F2.q ht)).set (by omega) (by omega)) r2 (by omega) (by rw [hs, h1, eb_ok, h2, eb_ok])
      exact ⟨M7, e7, (F2.g.tr (FG.set (by omega))).tr f7.g, t7⟩
def cI1 (j : Nat) (y : Int32) (M : Mem) : Option Mem := (f_X6_pass M).bind fun M32 => (rT M32 23 5).bind fun t33 => (f_X6_takeInt (0 : Int32) y M32).bind fun t35 => lt (sI t35.2 t33 j t35.1) fun M36 => some M36
/-- a number told -/
theorem c_intT {k j f y : Nat} (ht : isT t) (w : wfK K P V E) (T : tokC K P V N E M) (I : CI E t (i, τ, nm, B, W, lf) M) (hk : K i = k) (h0 : k ≠ 0) (h3 : k ≠ 3) (hf : (j = 15 ∧ f = 4) ∨ (j = 16 ∧ f = 5)) (hy : y ≤ 9999) : ∃ M', (cI1 j (nI y) M).bind (fun M' => f_X6_expect 59 M') = some M' ∧ FG t M M' ∧ TO P E t i M' (tlI K V P k f y (i, τ, nm, B, W, lf)) := by
  have l8 := isT_le ht
  obtain ⟨n, A, C, Pc, Lw⟩ := I
  have A : AV E t i n nm lf M := A
  have C : CNt t τ M := C
  have Pc : lf.1 = 0 → PCt t τ M := Pc
  have Lw : LWc t n B W M := Lw
  have hs : tlI K V P k f y (i, τ, nm, B, W, lf) = (exK K k i).bind fun i1 => (exK K 2 i1).bind fun i2 => (exK K 4 i2).bind fun i3 => .ok (i3, upT τ 0 f (V i1), nm, B, W, inS V P 0 y i1 lf) := rfl
  obtain ⟨M1, e1, f1, a1, a2⟩ := c_pasA ht w T A hk h0 h3
  have run : ∀ {v X}, M1.2.2 23 5 = some t → f_X6_takeInt 0 (nI y) M1 = some (v, X) → cI1 j (nI y) M = some (sI X t j v) := fun {v X} h5 h => by
    unfold cI1
    rw [e1, sb, rT_n h5 ht, sb, h, sb, lt_def]
  cases h1 : exK K k i with
  | error x =>
    have D1 := a2 x h1
    obtain ⟨v, M2, e2, f2, D2⟩ := c_takeID (x := 0) (y := nI y) ht D1
    have D3 := D2.set (a := t) (j := j) (x := v) (by omega) (fun _ => by omega)
    exact ⟨_, fin_D (run D1.1.2.2.2.2 e2) D3, (f1.tr f2).g.tr (FG.set (by omega)), TO.er (by rw [hs, h1, eb_er]) D3⟩
  | ok i1 =>
    have A1 := a1 i1 h1
    have j1 := (exK_ok h1).2.2
    obtain ⟨v, M2, e2, f2, p1, p2⟩ := c_takeI (a := 0) (b := y) ht w (T.fn f1) A1 (by omega) hy
    have F2 := f1.tr f2
    have r2 := run A1.1.2.2.2 e2
    cases h2 : exK K 2 i1 with
    | error x =>
      have D3 := (p2 x h2).set (a := t) (j := j) (x := v) (by omega) (fun _ => by omega)
      exact ⟨_, fin_D r2 D3, F2.g.tr (FG.set (by omega)), TO.er (by rw [hs, h1, eb_ok, h2, eb_er]) D3⟩
    | ok i2 =>
      obtain ⟨A2, hv⟩ := p1 i2 h2
      have j2 := (exK_ok h2).2.2
      have A3 := A2.set (a := t) (j := j) (x := v) (by omega) (by omega) (fun _ => by omega)
      obtain ⟨M7, e7, f7, t7⟩ := c_semi (K := K) (V := V) (P := P) (N := N) (i := i) (τ := upT τ 0 f (V i1)) (B := B) (W := W) (r := tlI K V P k f y (i, τ, nm, B, W, lf)) ht w ((T.fn F2).fg ht (FG.set (t := t) (by omega))) A3 ((C.q (F2.q ht)).w (Or.inr hf)) (fun z => ((Pc (inS_0 z).1).q (F2.q ht)).w (Or.inr hf) hv) ((Lw.q (F2.q ht)).set (by omega) (by omega)) r2 (by omega) (by rw [hs, h1, eb_ok, h2, eb_ok])
      exact ⟨M7, e7, (F2.g.tr (FG.set (by omega))).tr f7.g, t7⟩
theorem PFL.g {x : Nat} (f : PFL t x n M M') : FG t M M' := ⟨fun a p _ r => f.1 a p (by omega) (by omega) (by omega), fun a _ => by rw [f.2.2.2.2.2], by rw [f.2.2.2.2.2]⟩
/-- a law -/
theorem c_lawT {x : Nat} (ht : isT t) (w : wfK K P V E) (T : tokC K P V N E M) (I : CI E t (i, τ, nm, B, W, lf) M) (hx : x < 4) (hk : K i = 25 + x) : ∃ M', (f_X6_readLaw (nI x) M).bind (fun M' => f_X6_expect 59 M') = some M' ∧ FG t M M' ∧ TO P E t i M' (tlL K V x (i, τ, nm, B, W, lf)) := by
  have l8 := isT_le ht
  obtain ⟨n, A, C, Pc, Lw⟩ := I
  have A : AV E t i n nm lf M := A
  have C : CNt t τ M := C
  have Pc : lf.1 = 0 → PCt t τ M := Pc
  have Lw : LWc t n B W M := Lw
  have hs : tlL K V x (i, τ, nm, B, W, lf) = (lwHT K V x i).bind fun r => .ok (r.2.2, τ, nm, fun k => if k = x then r.1 else B k, fun k => if k = x then r.2.1 else W k, lf) := rfl
  obtain ⟨S, L, Q, nd, hi, hn⟩ := A
  obtain ⟨M1, e1, f1, a1, a2⟩ := c_readLaw ht w hx T hi S hn hk
  have Q4 : M1.1 23 4 = nI nm.length := (f1.2.2.1 4 (by decide) (by decide) (by decide)).trans Q.1
  cases h1 : lwH K V x i with
  | error y =>
    have D1 : DQ t y.1 (P y.2) M1 := ⟨(a2 y h1).1, nm.length, Q.2.1, Q4⟩
    exact ⟨M1, fin_D e1 D1, f1.g, TO.er (by rw [hs]; unfold lwHT; rw [h1, eb_er, eb_er]) D1⟩
  | ok r =>
    obtain ⟨S1, L1, u1, u2, u3, u4⟩ := a1 r h1
    have A1 : AV E t r.2.2 (n + lwZ r.1 r.2.1) nm lf M1 := by
      refine ⟨S1, ?_, ⟨Q4, Q.2.1, fun j p e => ?_⟩, nd, u3, u4⟩
      · unfold LFc at L ⊢
        rw [f1.2.2.1 8 (by decide) (by decide) (by decide), f1.2.2.1 9 (by decide) (by decide) (by decide)]
        exact L
      · rw [f1.2.2.2.2.2, f1.1 30 (by decide) (by omega) (by omega) (by omega)]
        exact Q.2.2 j p e
    have C1 : CNt t τ M1 := ⟨(f1.2.1 10 (by decide)).trans C.1, (f1.2.1 11 (by decide)).trans C.2.1, (f1.2.1 12 (by decide)).trans C.2.2.1, (f1.2.1 13 (by decide)).trans C.2.2.2⟩
    have P1 : lf.1 = 0 → PCt t τ M1 := fun z => by
      obtain ⟨q1, q2, q3, q4, q5, q6⟩ := Pc z
      have ce : ∀ k, 1 ≤ k → k ≤ 7 → M1.1 (t + k) = M.1 (t + k) := fun k hk hk' => f1.1 _ (by omega) (by omega) (by omega) (by omega)
      refine ⟨(f1.2.1 14 (by decide)).trans q1, (f1.2.1 15 (by decide)).trans q2, (f1.2.1 16 (by decide)).trans q3, fun s hs => ?_, fun y hy => ?_, fun u hu => ?_⟩
      · rw [ce 1 (by omega) (by omega), ce 2 (by omega) (by omega), ce 3 (by omega) (by omega)]
        exact q4 s hs
      · rw [ce 4 (by omega) (by omega), ce 5 (by omega) (by omega), ce 6 (by omega) (by omega)]
        exact q5 y hy
      · rw [ce 7 (by omega) (by omega)]
        exact q6 u hu
    have L2 : LWc t (n + lwZ r.1 r.2.1) (fun k => if k = x then r.1 else B k) (fun k => if k = x then r.2.1 else W k) M1 := fun k hk => by
      by_cases e : k = x
      · subst e
        refine ⟨n, u1, ?_, ?_⟩
        · show n + lwZ (if k = k then r.1 else B k) (if k = k then r.2.1 else W k) ≤ _
          rw [if_pos rfl, if_pos rfl]
          exact Nat.le_refl _
        · show LC0 t M1 n (if k = k then r.1 else B k) (if k = k then r.2.1 else W k)
          rw [if_pos rfl, if_pos rfl]
          exact L1
      · obtain ⟨st, c1, c2, c3⟩ := Lw k hk
        refine ⟨st, (f1.2.2.2.2.1 k e).trans c1, ?_, ?_⟩
        · show st + lwZ (if k = x then r.1 else B k) (if k = x then r.2.1 else W k) ≤ _
          rw [if_neg e, if_neg e]
          omega
        · show LC0 t M1 st (if k = x then r.1 else B k) (if k = x then r.2.1 else W k)
          rw [if_neg e, if_neg e]
          exact c3.of (fun q _ hq => f1.2.2.2.1 q (by omega))
    obtain ⟨M7, e7, f7, t7⟩ := c_semi (K := K) (V := V) (P := P) (N := N) (i := i) (r := tlL K V x (i, τ, nm, B, W, lf)) ht w (T.fg ht f1.g) A1 C1 P1 L2 e1 u2 (by
      rw [hs]
      unfold lwHT
      rw [h1, eb_ok]
      cases exK K 4 r.2.2 <;> rfl)
    exact ⟨M7, e7, f1.g.tr f7.g, t7⟩
/-- one tell, the ';' behind it too -/
def cTl (v9 : Int32) (M : Mem) : Option Mem :=
  (if v9 = 128 then (f_X6_readCorner M).bind fun M13 => some M13 else
   if v9 = 129 then (f_X6_readStreet M).bind fun M16 => some M16 else
   if v9 = 130 then (f_X6_readYoung M).bind fun M19 => some M19 else
   if v9 = 131 then (f_X6_readWord M).bind fun M22 => some M22 else
   if v9 = 132 then (f_X6_pass M).bind fun M25 => (rT M25 23 5).bind fun t26 => (f_X6_takeCorner M25).bind fun t28 => lt (sI t28.2 t26 14 t28.1) fun M29 => some M29 else
   if v9 = 137 then (f_X6_pass M).bind fun M32 => (rT M32 23 5).bind fun t33 => (f_X6_takeInt (0 : Int32) (100 : Int32) M32).bind fun t35 => lt (sI t35.2 t33 15 t35.1) fun M36 => some M36 else
   if v9 = 138 then (f_X6_pass M).bind fun M39 => (rT M39 23 5).bind fun t40 => (f_X6_takeInt (0 : Int32) (9999 : Int32) M39).bind fun t42 => lt (sI t42.2 t40 16 t42.1) fun M43 => some M43 else
   (f_X6_readLaw (v9 - (133 : Int32)) M).bind fun M45 => some M45)
theorem bs {α : Type} (x : Option α) : (x.bind fun y => some y) = x := by cases x <;> rfl
theorem cm_o : ∀ k, k < 43 → (k < 20 ∨ 30 < k) → cmN k < 128 ∨ (139 ≤ cmN k ∧ cmN k < 200) := by decide +kernel
theorem c_other (ht : isT t) (w : wfK K P V E) (T : tokC K P V N E M) (I : CI E t (i, τ, nm, B, W, lf) M) (ho : K i < 20 ∨ 30 < K i) : ∃ M', (cTl (nI (cmN (K i))) M).bind (fun M' => f_X6_expect 59 M') = some M' ∧ FG t M M' ∧ TO P E t i M' (.error (1, i)) := by
  obtain ⟨n, A, C, Pc, Lw⟩ := I
  have A : AV E t i n nm lf M := A
  have hc := cm_o (K i) (w.2.1 i A.2.2.2.2.1).1 ho
  obtain ⟨S, L, Q, nd, hi, hn⟩ := A
  have hE := w.1
  obtain ⟨M1, e1, f1, D1⟩ := c_fail (x := 1) ht T hi hE S (by omega) (by omega) (by omega)
  have F1 := ft_fail e1
  have Q1 := Q.ft F1
  have e1' : f_X6_fail 1 M = some M1 := e1
  have D2 : DQ t 1 (P i) M1 := ⟨D1, nm.length, Q1.2.1, Q1.1⟩
  have hr : f_X6_readLaw (nI (cmN (K i)) - 133) M = some M1 := by
    unfold f_X6_readLaw
    rcases hc with h | h
    · have hneg : nI (cmN (K i)) - 133 < 0 := by
        apply Int32.lt_iff_toInt_lt.mpr
        rw [show (133 : Int32) = nI 133 from rfl, pk_sub_toInt (by omega) (by omega)]
        show ((cmN (K i) : Int) - (133 : Nat)) < 0
        omega
      rw [if_pos hneg, e1', sb]
    · rw [show (133 : Int32) = nI 133 from rfl, sub_n2 (by omega), if_neg (nI_pos (by omega)), li 4, if_neg (nI_nlt (by omega) (by omega)), e1', sb]
  have ne : ∀ c, 128 ≤ c → c ≤ 138 → ¬ nI (cmN (K i)) = nI c := fun c h1 h2 z => by
    have := nI_inj (by omega) (by omega) z
    omega
  refine ⟨M1, fin_D ?_ D2, F1.fn.g, TO.er rfl D2⟩
  unfold cTl
  rw [if_neg (show ¬ nI (cmN (K i)) = 128 from ne 128 (by omega) (by omega)), if_neg (show ¬ nI (cmN (K i)) = 129 from ne 129 (by omega) (by omega)), if_neg (show ¬ nI (cmN (K i)) = 130 from ne 130 (by omega) (by omega)), if_neg (show ¬ nI (cmN (K i)) = 131 from ne 131 (by omega) (by omega)), if_neg (show ¬ nI (cmN (K i)) = 132 from ne 132 (by omega) (by omega)), if_neg (show ¬ nI (cmN (K i)) = 137 from ne 137 (by omega) (by omega)), if_neg (show ¬ nI (cmN (K i)) = 138 from ne 138 (by omega) (by omega)), hr, sb]
theorem c_tell1 (ht : isT t) (w : wfK K P V E) (T : tokC K P V N E M) (I : CI E t (i, τ, nm, B, W, lf) M) (b : bdS τ nm) : ∃ M', (cTl (nI (cmN (K i))) M).bind (fun M' => f_X6_expect 59 M') = some M' ∧ FG t M M' ∧ TO P E t i M' (tlS K V P N (i, τ, nm, B, W, lf)) := by
  have hs : tlS K V P N (i, τ, nm, B, W, lf) = if K i = 20 then tlC K P N (i, τ, nm, B, W, lf) else if K i = 21 then tlR' K V P N (i, τ, nm, B, W, lf) else if K i = 22 then tlY K V P N (i, τ, nm, B, W, lf) else if K i = 23 then tlW K V P N (i, τ, nm, B, W, lf) else if K i = 24 then tlB K P N (i, τ, nm, B, W, lf) else if K i = 29 then tlI K V P 29 4 100 (i, τ, nm, B, W, lf) else if K i = 30 then tlI K V P 30 5 9999 (i, τ, nm, B, W, lf) else if 25 ≤ K i ∧ K i ≤ 28 then tlL K V (K i - 25) (i, τ, nm, B, W, lf) else .error (1, i) := rfl
  rw [hs]
  by_cases h20 : K i = 20
  · have e : cTl (nI (cmN (K i))) M = f_X6_readCorner M := by
      unfold cTl
      rw [h20, if_pos (show nI (cmN 20) = 128 by decide), bs]
    rw [if_pos h20, e]
    exact c_corner ht w T I b h20
  rw [if_neg h20]
  by_cases h21 : K i = 21
  · have e : cTl (nI (cmN (K i))) M = f_X6_readStreet M := by
      unfold cTl
      rw [h21, if_neg (show ¬ nI (cmN 21) = 128 by decide), if_pos (show nI (cmN 21) = 129 by decide), bs]
    rw [if_pos h21, e]
    exact c_street ht w T I b h21
  rw [if_neg h21]
  by_cases h22 : K i = 22
  · have e : cTl (nI (cmN (K i))) M = f_X6_readYoung M := by
      unfold cTl
      rw [h22, if_neg (show ¬ nI (cmN 22) = 128 by decide), if_neg (show ¬ nI (cmN 22) = 129 by decide), if_pos (show nI (cmN 22) = 130 by decide), bs]
    rw [if_pos h22, e]
    exact c_youngT ht w T I b h22
  rw [if_neg h22]
  by_cases h23 : K i = 23
  · have e : cTl (nI (cmN (K i))) M = f_X6_readWord M := by
      unfold cTl
      rw [h23, if_neg (show ¬ nI (cmN 23) = 128 by decide), if_neg (show ¬ nI (cmN 23) = 129 by decide), if_neg (show ¬ nI (cmN 23) = 130 by decide), if_pos (show nI (cmN 23) = 131 by decide), bs]
    rw [if_pos h23, e]
    exact c_wordT ht w T I b h23
  rw [if_neg h23]
  by_cases h24 : K i = 24
  · have e : cTl (nI (cmN (K i))) M = cB1 M := by
      unfold cTl
      rw [h24, if_neg (show ¬ nI (cmN 24) = 128 by decide), if_neg (show ¬ nI (cmN 24) = 129 by decide), if_neg (show ¬ nI (cmN 24) = 130 by decide), if_neg (show ¬ nI (cmN 24) = 131 by decide), if_pos (show nI (cmN 24) = 132 by decide)]
      rfl
    rw [if_pos h24, e]
    exact c_startT ht w T I h24
  rw [if_neg h24]
  by_cases h29 : K i = 29
  · have e : cTl (nI (cmN (K i))) M = cI1 15 (nI 100) M := by
      unfold cTl
      rw [h29, if_neg (show ¬ nI (cmN 29) = 128 by decide), if_neg (show ¬ nI (cmN 29) = 129 by decide), if_neg (show ¬ nI (cmN 29) = 130 by decide), if_neg (show ¬ nI (cmN 29) = 131 by decide), if_neg (show ¬ nI (cmN 29) = 132 by decide), if_pos (show nI (cmN 29) = 137 by decide)]
      rfl
    rw [if_pos h29, e]
    exact c_intT ht w T I h29 (by omega) (by omega) (Or.inl ⟨rfl, rfl⟩) (by omega)
  rw [if_neg h29]
  by_cases h30 : K i = 30
  · have e : cTl (nI (cmN (K i))) M = cI1 16 (nI 9999) M := by
      unfold cTl
      rw [h30, if_neg (show ¬ nI (cmN 30) = 128 by decide), if_neg (show ¬ nI (cmN 30) = 129 by decide), if_neg (show ¬ nI (cmN 30) = 130 by decide), if_neg (show ¬ nI (cmN 30) = 131 by decide), if_neg (show ¬ nI (cmN 30) = 132 by decide), if_neg (show ¬ nI (cmN 30) = 137 by decide), if_pos (show nI (cmN 30) = 138 by decide)]
      rfl
    rw [if_pos h30, e]
    exact c_intT ht w T I h30 (by omega) (by omega) (Or.inr ⟨rfl, rfl⟩) (by omega)
  rw [if_neg h30]
  by_cases hl : 25 ≤ K i ∧ K i ≤ 28
  · rw [if_pos hl]
    have e : cTl (nI (cmN (K i))) M = f_X6_readLaw (nI (K i - 25)) M := by
      have ec : cmN (K i) = 133 + (K i - 25) := by
        obtain ⟨q1, q2⟩ := hl
        rcases (by omega : K i = 25 ∨ K i = 26 ∨ K i = 27 ∨ K i = 28) with h | h | h | h <;> rw [h] <;> rfl
      have ne : ∀ c, (128 ≤ c ∧ c ≤ 132) ∨ (137 ≤ c ∧ c ≤ 138) → ¬ nI (cmN (K i)) = nI c := fun c h1 z => by
        have := nI_inj (by omega) (by omega) z
        omega
      unfold cTl
      rw [if_neg (show ¬ nI (cmN (K i)) = 128 from ne 128 (by omega)), if_neg (show ¬ nI (cmN (K i)) = 129 from ne 129 (by omega)), if_neg (show ¬ nI (cmN (K i)) = 130 from ne 130 (by omega)), if_neg (show ¬ nI (cmN (K i)) = 131 from ne 131 (by omega)), if_neg (show ¬ nI (cmN (K i)) = 132 from ne 132 (by omega)), if_neg (show ¬ nI (cmN (K i)) = 137 from ne 137 (by omega)), if_neg (show ¬ nI (cmN (K i)) = 138 from ne 138 (by omega)), bs, ec, show (133 : Int32) = nI 133 from rfl, sub_n2 (by omega), show 133 + (K i - 25) - 133 = K i - 25 by omega]
    rw [e]
    exact c_lawT ht w T I (by omega) (by omega)
  · rw [if_neg hl]
    exact c_other ht w T I (by omega)
end CTZ

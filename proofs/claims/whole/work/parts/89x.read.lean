-- 89x.read: pure: what READ leaves
section RDX
variable {t v : Nat} {τ : Nat → Nat → Nat} {M M' : Mem}
theorem r_begN (hv : v ≤ 1) (h18 : M.1 67 18 = nI v) (C : CNm v τ M) (P : PCm v τ M) (hC : tC τ ≤ 7) (hY : tY τ ≤ 6) (hW : tW τ ≤ 5) : ∃ M' M'', f_X12_begins M = some M' ∧ f_X12_keepsRow M' = some M'' ∧ (∀ a, a ≠ 103 → a ≠ 104 → a ≠ 67 → M''.1 a = M.1 a) ∧ (∀ i, i ≠ 55 → i ≠ 56 → M''.1 67 i = M.1 67 i) ∧ M''.2 = M.2 ∧ NR 103 τ (rhN τ) M'' := by
  obtain ⟨q1, q2, q3, q4, q5, q6⟩ := P
  obtain ⟨p1, p2, p3, p4⟩ := C
  let X1 := wrM M 104 0 (fun _ => 0) 48
  have c1 : ∀ a, a ≠ 104 → X1.1 a = M.1 a := fun a h => wr_cell h
  let X2 := wrM X1 104 0 (fun y => X1.1 85 (6 * v + y)) (tY τ)
  have c2 : ∀ a, a ≠ 104 → X2.1 a = M.1 a := fun a h => (wr_cell h).trans (c1 a h)
  let X3 := wrM X2 104 36 (fun y => X2.1 87 (5 * v + y)) (tW τ)
  have c3 : ∀ a, a ≠ 104 → X3.1 a = M.1 a := fun a h => (wr_cell h).trans (c2 a h)
  have e2 : f_X12_begins_L23 FU 0 X1 = some X2 := r_bY hv (by rw [c1 67 (by decide)]; exact h18) (by rw [c1 82 (by decide)]; exact p3) hY
  have e3 : f_X12_begins_L64 FU 0 X2 = some X3 := r_bW hv (by rw [c2 67 (by decide)]; exact h18) (by rw [c2 86 (by decide)]; exact p4) hW
  let z : Int32 := if tC τ = 0 then -2 else M.1 88 v
  let X4 := sI X3 104 46 z
  let X5 := sI X4 67 55 (M.1 90 v)
  let X6 := sI X5 67 56 0
  have eb : f_X12_begins M = some X6 := by
    unfold f_X12_begins
    rw [r_b48, sb, show f_X12_begins_L23 FU 0 (wrM M 104 0 (fun _ => 0) 48) = some X2 from e2, sb, e3, sb, c3 67 (by decide), h18, ag_n (by omega) (by omega), sb, c3 77 (by decide), p1]
    have ez : (if nI (tC τ) = 0 then some (-2 : Int32) else (ag X3 88 2 (nI v)).bind fun v23 => some v23) = some z := by
      show _ = some (if tC τ = 0 then -2 else M.1 88 v)
      by_cases h : tC τ = 0
      · rw [if_pos h, if_pos (by rw [h]; rfl)]
      · rw [if_neg h, if_neg (nI_ne0 (by omega) (by omega)), ag_n (by omega) (by omega), sb, c3 88 (by decide)]
    rw [ez, sb, show (46 : Int32) = nI 46 from rfl, pg_n (by omega) (by omega), sb]
    have c4 : ∀ a, a ≠ 104 → (sI X3 104 46 z).1 a = M.1 a := fun a h => (sI_cell h).trans (c3 a h)
    rw [c4 67 (by decide), h18, ag_n (by omega) (by omega), sb, c4 90 (by decide), lt_def, lt_def]
  have k6 : ∀ k, X6.1 104 k = X4.1 104 k := fun k => (congrFun (sI_cell (by decide)) k).trans (congrFun (sI_cell (by decide)) k)
  have kk : ∀ k, k < 48 → (cpM X6 104 103 0 0 48).1 103 k = X4.1 104 k := fun k hk => by
    rw [cp1, if_pos (by omega), Nat.zero_add, Nat.sub_zero, k6]
  refine ⟨X6, cpM X6 104 103 0 0 48, eb, r_keepR, fun a h1 h2 h3 => ?_, fun i h1 h2 => ?_, rfl, fun k hk h46 => ?_, fun h => ?_, fun h => ?_⟩
  · exact (cp_cell h1).trans ((sI_cell h3).trans ((sI_cell h3).trans ((sI_cell h2).trans (c3 a h2))))
  · exact (congrFun (cp_cell (by decide)) i).trans ((sI_ix h2).trans ((sI_ix h1).trans ((congrFun (sI_cell (by decide)) i).trans (congrFun (c3 67 (by decide)) i))))
  · rw [kk k hk, show X4.1 104 k = X3.1 104 k from sI_ix h46]
    show (if (104 : Nat) = 104 ∧ 36 ≤ k ∧ k < 36 + tW τ then X2.1 87 (5 * v + (k - 36)) else X2.1 104 k) = _
    by_cases a : 36 ≤ k ∧ k < 36 + tW τ
    · rw [if_pos ⟨rfl, a⟩, c2 87 (by decide)]
      have := rh_w (τ := τ) (w := k - 36) hY (by omega)
      rw [show 36 + (k - 36) = k by omega] at this
      rw [this]
      exact q6 (k - 36) (by omega)
    · rw [if_neg (fun z => a z.2)]
      show (if (104 : Nat) = 104 ∧ 0 ≤ k ∧ k < 0 + tY τ then X1.1 85 (6 * v + (k - 0)) else X1.1 104 k) = _
      by_cases b : k < tY τ
      · rw [if_pos (by omega), c1 85 (by decide), rh_y b, Nat.sub_zero]
        exact (q5 k b).2.2
      · rw [if_neg (by omega), rh_0 (by omega) (by omega) h46]
        show (if (104 : Nat) = 104 ∧ 0 ≤ k ∧ k < 0 + 48 then (0 : Int32) else M.1 104 k) = _
        rw [if_pos (by omega)]
        rfl
  · rw [kk 46 (by omega), show X4.1 104 46 = z from sI_same, rh_46 hY hW, ← q1]
    exact if_neg (by omega)
  · rw [kk 46 (by omega), show X4.1 104 46 = z from sI_same]
    exact if_pos h
theorem r_cls : f_X12_read_L219 FU 0 M = some (wrM M 116 0 (fun _ => 0) 3) := by
  have key : f_X12_read_L219 FU (nI 0) (wrM M 116 0 (fun _ => 0) 0) = some (wrM M 116 0 (fun _ => 0) 3) := by
    refine loop0 (fun fu y => f_X12_read_L219 fu (nI y) (wrM M 116 0 (fun _ => 0) y)) _ 3 (by omega) (fun fu => ?_) (fun fu y hy => ?_)
    · show f_X12_read_L219 (fu + 1) _ _ = some _
      rw [f_X12_read_L219, li 3, if_pos (nI_le (Nat.le_refl _) (by omega))]
    · show f_X12_read_L219 (fu + 1) _ _ = f_X12_read_L219 fu _ _
      rw [f_X12_read_L219, li 3, if_neg (nI_ge hy (by omega)), pz_n hy (by omega), sb, show vp_nar .boolean (0 : Int32) = 0 by decide, nI_1, lt_def]
      have := wr_s (M := M) (a := 116) (l := 0) (n := y) (B := fun _ => 0)
      rw [Nat.zero_add] at this
      rw [this]
  rw [wr_0] at key
  exact key
/-- what the class has of a town read to its end -/
def CE (t : Nat) (s : TSt) (M : Mem) : Prop := CNt t s.2.1 M ∧ PCt t s.2.1 M ∧ ∃ n, n ≤ 407 ∧ M.1 t 9 = nI n ∧ LWc t n s.2.2.2.1 s.2.2.2.2.1 M
theorem c_readIn (ht : isT t) {b : Nat → Nat} {len : Nat} {kw : Nat → Int64} (hB : BC b len M) (hk : ∀ k, k < 23 → M.2.1 28 k = kw k) (hd : ∀ i j, i < j → j < 23 → kw i ≠ kw j) : ∃ x M' E, f_X6_readInto t M = some (x, M') ∧ FQ t M M' ∧ wfK (tK b len kw) (stN b len) (tV b len) E ∧ (∀ j, j < E → tK b len kw j ≠ 0 ∧ tK b len kw j ≠ 3) ∧ (∀ s', tlA (tK b len kw) (tV b len) (stN b len) (tN b len) 401 s00 = .ok s' → WfS s' ∧ (s'.2.2.2.2.2.1 = 0 → x = 0 ∧ M'.1 23 0 = -1 ∧ CE t s' M') ∧ (s'.2.2.2.2.2.1 ≠ 0 → x = nI s'.2.2.2.2.2.1 ∧ M'.1 23 0 = nI s'.2.2.2.2.2.2 ∧ s'.2.2.2.2.2.1 < 10)) ∧ ∀ y, tlA (tK b len kw) (tV b len) (stN b len) (tN b len) 401 s00 = .error y → x = nI y.1 ∧ M'.1 23 0 = nI (stN b len y.2) ∧ 0 < y.1 ∧ y.1 < 10 := by
  have hFU : FU = 1000000 := rfl
  have l8 := isT_le ht
  obtain ⟨M1, E, e1, f1, hE, h1, h2, T1, I1⟩ := c_start ht hB hk hd
  have w := tok_wf hB.1 hE h1 h2
  obtain ⟨M2, e2, f2, a1, a2⟩ := c_tells (t := t) ht w (fun j hj => tV_le j hj) 401 FU 0 s00 M1 (by show 401 ≤ 0 + 401; omega) (by omega) (by show 0 ≤ 0; omega) T1 I1 wf_00
  have e2' : f_X6_readInto_L8 t FU 0 M1 = some M2 := e2
  cases hr : tlA (tK b len kw) (tV b len) (stN b len) (tN b len) 401 s00 with
  | error y =>
    have D := a2 y hr
    refine ⟨M2.1 23 7, M2, E, ?_, f1.tr f2.fq, w, h1, (fun s' h => by cases h), (fun z h => by cases h; exact ⟨D.1.1.1, D.1.2.1, D.1.1.2⟩)⟩
    unfold f_X6_readInto
    rw [e1, sb, e2', sb, if_neg D.1.n0]
  | ok s =>
    obtain ⟨⟨n, A, C, P, L⟩, wf⟩ := a1 s hr
    let M3 := sI M2 23 7 (M2.1 23 8)
    let M4 := sI M3 23 0 (M3.1 23 9)
    have k7 : M4.1 23 7 = M2.1 23 8 := (sI_ix (by decide)).trans sI_same
    have k0 : M4.1 23 0 = M2.1 23 9 := sI_same.trans (sI_ix (by decide))
    have ca : ∀ a, a ≠ 23 → M4.1 a = M2.1 a := fun a h => (sI_cell h).trans (sI_cell h)
    refine ⟨M2.1 23 8, M4, E, ?_, (f1.tr f2.fq).tr (FQ.w23.tr FQ.w23), w, h1, (fun s' h => ?_), (fun z h => by cases h)⟩
    · unfold f_X6_readInto
      rw [e1, sb, e2', sb, if_pos A.1.1, lt_def, lt_def]
      exact congrArg (fun q => some (q, M4)) k7
    · cases h
      refine ⟨wf, fun z => ⟨?_, ?_, ?_, ?_, n, ?_, ?_, ?_⟩, fun z => ⟨A.2.1.1, k0.trans (A.2.1.2.2.1 z), A.2.1.2.1⟩⟩
      · rw [A.2.1.1, z]; rfl
      · exact k0.trans (A.2.1.2.2.2 z)
      · exact C.q (fun k hk => ca (t + k) (by omega))
      · exact (P z).q (fun k hk => ca (t + k) (by omega))
      · have := A.2.2.2.2.1
        have := A.2.2.2.2.2
        omega
      · rw [ca t (by omega)]; exact A.1.2.2.1
      · exact L.q (fun k hk => ca (t + k) (by omega))
theorem PastR.cg (h : PastR τ M) (e57 : M'.1 57 = M.1 57) (e58 : M'.1 58 = M.1 58) (e108 : M'.1 108 = M.1 108) (e60 : M'.1 67 60 = M.1 67 60) : PastR τ M' := by
  obtain ⟨q, x, h1, h2, h3, h4, h5, h6⟩ := h
  refine ⟨q, x, h1, h2, by rw [e57]; exact h3, by rw [e57]; exact h4, e60.trans h5, fun j hj => ?_⟩
  obtain ⟨ρ, a1, a2, a3⟩ := h6 j hj
  exact ⟨ρ, a1, a2.kp e58, a3.kp e108⟩
theorem SlotR.cg (h : SlotR τ M) (e57 : M'.1 57 = M.1 57) (e59 : M'.1 59 = M.1 59) (e116 : M'.1 116 = M.1 116) (e117 : M'.1 117 = M.1 117) : SlotR τ M' := by
  obtain ⟨p, h1, h2⟩ := h
  refine ⟨p, by rw [e57]; exact h1, fun s hs => ⟨by rw [e116]; exact (h2 s hs).1, fun hp => ?_⟩⟩
  obtain ⟨ρ, a1, a2, a3⟩ := (h2 s hs).2 hp
  exact ⟨ρ, a1, a2.kp e59, a3.kp e117⟩
theorem TR.sd (h : TR v τ M) (e18 : M'.1 67 18 = M.1 67 18) (e : ∀ a i, sdR v a i → M'.1 a i = M.1 a i) (hS : tS τ ≤ 10) (hY : tY τ ≤ 6) : TR v τ M' := by
  obtain ⟨h1, h2, h3, h4, h5, h6, h7, h8, h9, h10⟩ := h
  have e1 : ∀ a, a = 77 ∨ a = 78 ∨ a = 82 ∨ a = 86 ∨ a = 88 ∨ a = 89 ∨ a = 90 → M'.1 a v = M.1 a v := fun a h => e a v (Or.inl ⟨h, rfl⟩)
  refine ⟨h1, e18.trans h2, (e1 77 (by omega)).trans h3, (e1 78 (by omega)).trans h4, (e1 82 (by omega)).trans h5, (e1 86 (by omega)).trans h6, (e1 89 (by omega)).trans h7, (e1 90 (by omega)).trans h8, fun s hs => ?_, fun y hy => ?_⟩
  · have e2 : ∀ a, 79 ≤ a → a ≤ 81 → M'.1 a (10 * v + s) = M.1 a (10 * v + s) := fun a p q => e a _ (Or.inr (Or.inl ⟨⟨p, q⟩, by omega, by omega⟩))
    rw [e2 79 (by decide) (by decide), e2 80 (by decide) (by decide), e2 81 (by decide) (by decide)]
    exact h9 s hs
  · have e2 : ∀ a, 83 ≤ a → a ≤ 85 → M'.1 a (6 * v + y) = M.1 a (6 * v + y) := fun a p q => e a _ (Or.inr (Or.inr (Or.inl ⟨⟨p, q⟩, by omega, by omega⟩)))
    rw [e2 83 (by decide) (by decide), e2 84 (by decide) (by decide)]
    exact h10 y hy
theorem LawM.sd {F : Nat → (Nat → Int32) → Int32} (h : LawM F M) (h18 : M.1 67 18 = nI v) (hv : v ≤ 1) (e18 : M'.1 67 18 = M.1 67 18) (e : ∀ a i, sdR v a i → M'.1 a i = M.1 a i) : LawM F M' := by
  obtain ⟨u, hu, g18, h⟩ := h
  have : u = v := nI_inj (by omega) (by omega) (g18.symm.trans h18)
  subst this
  exact ⟨u, hu, e18.trans g18, fun M2 a1 a2 => h M2 a1 (fun a i r => (a2 a i r).trans (e a i (Or.inr (Or.inr (Or.inr (Or.inr r))))))⟩
/-- a text that is not taken: all is as it was, but the tape and the place -/
theorem rel_fault {ρ : Nat → Nat} {F : Nat → (Nat → Int32) → Int32} (R : RelP t v τ ρ F M) (ca : ∀ a, (t ≤ a ∧ a ≤ t + 9) ∨ a = 48 ∨ a = 49 ∨ (53 ≤ a ∧ a ≤ 66) ∨ 100 < a → M'.1 a = M.1 a) (cf : ∀ i, i = 18 ∨ i = 60 ∨ i = 66 → M'.1 67 i = M.1 67 i) (cs : ∀ a i, sdR v a i → M'.1 a i = M.1 a i) (cj : ∀ a, a = 28 ∨ a = 74 → M'.2.1 a = M.2.1 a) (cr : ∀ a, a = 0 ∨ a = 60 → M'.2.2 a = M.2.2 a) (h21 : M'.1 21 1 = 0) (h67 : M'.1 67 2 = 0) (hp : M'.1 0 11 = M'.1 67 17) : Rel M' := by
  obtain ⟨h1, h2, h3, h4, h5, h6, h7, h8, h9, h10, h11, h12, h13, h14, h15⟩ := R
  have l8 := isT_le h3.1
  have e : ∀ j, j < 10 → M'.1 (t + j) = M.1 (t + j) := fun j hj => ca _ (Or.inl (by omega))
  have e0 : M'.1 t = M.1 t := e 0 (by decide)
  refine ⟨t, v, τ, ρ, F, h1, h2, ?_, h4.sd (cf 18 (by omega)) cs h1.2.1 h1.2.2.1, h5.cg (fun a p q => ca a (by omega)) (cr 60 (by omega)), ?_, ?_, h8.cg (ca 57 (by omega)) (ca 58 (by omega)) (ca 108 (by omega)) (cf 60 (by omega)), h9.cg (ca 57 (by omega)) (ca 59 (by omega)) (ca 116 (by omega)) (ca 117 (by omega)), ?_, ⟨0, by omega, h21, h67, fun i hi => absurd hi (by omega)⟩, hp, ⟨h13.1, ?_, h13.2.2.sd h4.2.1 h4.1 (cf 18 (by omega)) cs⟩, ?_, ?_⟩
  · unfold TC at h3 ⊢
    rw [e0, e 1 (by decide), e 2 (by decide), e 3 (by decide), e 4 (by decide), e 5 (by decide)]
    exact h3
  · unfold NR at h6 ⊢
    rw [ca 103 (by omega)]
    exact h6
  · rw [cr 0 (by omega)]
    exact h7
  · unfold KnownR at h10 ⊢
    rw [ca 53 (by omega), ca 54 (by omega), ca 55 (by omega), ca 56 (by omega), ca 113 (by omega), ca 114 (by omega), ca 115 (by omega), cf 66 (by omega)]
    exact h10
  · intro M2 a1 a2 a3
    exact h13.2.1 M2 (a1.trans e0) (a2.trans (e 8 (by decide))) (a3.trans (e 9 (by decide)))
  · unfold PostR at h14 ⊢
    rw [ca 48 (by omega), ca 49 (by omega)]
    exact h14
  · unfold KeyR at h15 ⊢
    rw [cj 28 (by omega), cj 74 (by omega)]
    exact h15
end RDX

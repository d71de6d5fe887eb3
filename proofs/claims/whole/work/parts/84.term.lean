-- 84.term: pure: the reference reckons a term
section RTERM
variable {M M' : Mem}
theorem rt_0 {kk : Mem → Option (Int32 × Mem)} {fu h n e a : Nat} (hn : n < e) (he : e ≤ 840) (hh : h < 400) (h98 : M.1 98 n = nI 0) (h99 : M.1 99 n = nI a) : f_X12_termOf_L5 kk (fu + 1) (nI e) (nI h) (nI n) M = f_X12_termOf_L5 kk fu (nI e) (nI (h + 1)) (nI (n + 1)) (sI M 102 h (nI a)) := by
  rw [f_X12_termOf_L5, if_neg (nI_ge hn (by omega)), ag_n (by omega) (by omega), sb, h98, if_neg (show ¬ (2 : Int32) ≤ nI 0 by decide), if_pos (show nI 0 = 0 from rfl), ag_n (by omega) (by omega), sb, sb, h99, pg_n hh (by omega), sb, lt_def, lt_def, nI_1 h, nI_1 n]
theorem rt_1 {kk : Mem → Option (Int32 × Mem)} {fu h n e a : Nat} (hn : n < e) (he : e ≤ 840) (hh : h < 400) (ha : a < 9) (h98 : M.1 98 n = nI 1) (h99 : M.1 99 n = nI a) : f_X12_termOf_L5 kk (fu + 1) (nI e) (nI h) (nI n) M = f_X12_termOf_L5 kk fu (nI e) (nI (h + 1)) (nI (n + 1)) (sI M 102 h (M.1 101 a)) := by
  rw [f_X12_termOf_L5, if_neg (nI_ge hn (by omega)), ag_n (by omega) (by omega), sb, h98, if_neg (show ¬ (2 : Int32) ≤ nI 1 by decide), if_neg (show ¬ nI 1 = 0 by decide), ag_n (by omega) (by omega), sb, h99, ag_n (by omega) (by omega), sb, sb, pg_n hh (by omega), sb, lt_def, lt_def, nI_1 h, nI_1 n]
theorem rt_o {kk : Mem → Option (Int32 × Mem)} {fu h n e c : Nat} (hn : n < e) (he : e ≤ 840) (hh : h + 2 ≤ 400) (h2 : 2 ≤ c) (h5 : c ≤ 5) (h98 : M.1 98 n = nI c) : f_X12_termOf_L5 kk (fu + 1) (nI e) (nI (h + 2)) (nI n) M = if c = 5 ∧ M.1 102 (h + 1) = 0 then some (0, sI M 67 52 1) else f_X12_termOf_L5 kk fu (nI e) (nI (h + 1)) (nI (n + 1)) (sI M 102 h (apO c (M.1 102 h) (M.1 102 (h + 1)))) := by
  have c2 : (2 : Int32) ≤ nI c := nI_le (a := 2) h2 (by omega)
  rw [f_X12_termOf_L5, if_neg (nI_ge hn (by omega)), ag_n (by omega) (by omega), sb, h98, if_pos c2, nI_m1, lt_def, nI_pred, ag_n (i := h) (by omega) (by omega), sb, ag_n (by omega) (by omega), sb, lt_def]
  rcases (by omega : c = 2 ∨ c = 3 ∨ c = 4 ∨ c = 5) with z | z | z | z <;> subst z
  · rw [if_neg (show ¬ nI 2 = 5 by decide), if_pos (show nI 2 = 2 from rfl), sb, pg_n (by omega) (by omega), sb, lt_def, nI_1 n, if_neg (by omega)]
    rfl
  · rw [if_neg (show ¬ nI 3 = 5 by decide), if_neg (show ¬ nI 3 = 2 by decide), if_pos (show nI 3 = 3 from rfl), sb, pg_n (by omega) (by omega), sb, lt_def, nI_1 n, if_neg (by omega)]
    rfl
  · rw [if_neg (show ¬ nI 4 = 5 by decide), if_neg (show ¬ nI 4 = 2 by decide), if_neg (show ¬ nI 4 = 3 by decide), if_pos (show nI 4 = 4 from rfl), sb, pg_n (by omega) (by omega), sb, lt_def, nI_1 n, if_neg (by omega)]
    rfl
  · rw [if_pos (show nI 5 = 5 from rfl)]
    by_cases z : M.1 102 (h + 1) = 0
    · rw [if_pos z, if_pos ⟨rfl, z⟩, lt_def]
    · rw [if_neg z, if_neg (show ¬ nI 5 = 2 by decide), if_neg (show ¬ nI 5 = 3 by decide), if_neg (show ¬ nI 5 = 4 by decide), if_neg (fun a => z a.2)]
      unfold dv
      rw [if_neg z, sb, sb, pg_n (by omega) (by omega), sb, lt_def, nI_1 n]
      rfl
theorem two_l : ∀ {s : List Int32}, 2 ≤ s.length → ∃ b a r, s = b :: a :: r
  | [], h => absurd h (by decide)
  | [x], h => absurd h (by rw [List.length_singleton]; omega)
  | b :: a :: r, _ => ⟨b, a, r, rfl⟩
set_option maxRecDepth 20000 in
theorem r_code {kk : Mem → Option (Int32 × Mem)} {e : Nat} (he : e ≤ 840) : ∀ (c : List (Nat × Nat)) (n h' fu : Nat) (s : List Int32) (M : Mem), wfE 24 c s.length h' → s.length ≤ 24 → CM M n c → ST 102 M s → n + c.length ≤ e → c.length < fu → (evS (M.1 101) c s = none → ∃ M', f_X12_termOf_L5 kk fu (nI e) (nI s.length) (nI n) M = some (0, M') ∧ FrN [102] M M' ∧ M'.1 67 52 = 1) ∧ ∀ s', evS (M.1 101) c s = some s' → ∃ M', f_X12_termOf_L5 kk fu (nI e) (nI s.length) (nI n) M = f_X12_termOf_L5 kk (fu - c.length) (nI e) (nI s'.length) (nI (n + c.length)) M' ∧ FrN [102] M M' ∧ M'.1 67 52 = M.1 67 52 ∧ ST 102 M' s'
  | [], n, h', fu, s, M, w, a6, C, S, hn, hf => ⟨fun e => (by cases e), fun s' e => (by cases e; exact ⟨M, rfl, FrN.rf, rfl, S⟩)⟩
  | x :: c, n, h', fu, s, M, w, a6, C, S, hn, hf => by
    obtain ⟨z, rfl⟩ : ∃ z, fu = z + 1 := ⟨fu - 1, by omega⟩
    rw [List.length_cons] at hn hf
    have cont : ∀ (a : Nat) (v : Int32) (s2 : List Int32), ST 102 (sI M 102 a v) s2 → wfE 24 c s2.length h' → s2.length ≤ 24 → f_X12_termOf_L5 kk (z + 1) (nI e) (nI s.length) (nI n) M = f_X12_termOf_L5 kk z (nI e) (nI s2.length) (nI (n + 1)) (sI M 102 a v) → evS (M.1 101) (x :: c) s = evS (M.1 101) c s2 → (evS (M.1 101) (x :: c) s = none → ∃ M', f_X12_termOf_L5 kk (z + 1) (nI e) (nI s.length) (nI n) M = some (0, M') ∧ FrN [102] M M' ∧ M'.1 67 52 = 1) ∧ ∀ s', evS (M.1 101) (x :: c) s = some s' → ∃ M', f_X12_termOf_L5 kk (z + 1) (nI e) (nI s.length) (nI n) M = f_X12_termOf_L5 kk (z + 1 - (x :: c).length) (nI e) (nI s'.length) (nI (n + (x :: c).length)) M' ∧ FrN [102] M M' ∧ M'.1 67 52 = M.1 67 52 ∧ ST 102 M' s' := by
      intro a v s2 S2 w2 w3 e1 e2
      have f1 : FrN [102] M (sI M 102 a v) := FrN.set (by simp) (by decide)
      have u1 : (sI M 102 a v).1 101 = M.1 101 := sI_cell (by decide)
      have u2 : (sI M 102 a v).1 67 52 = M.1 67 52 := congrFun (sI_cell (by decide)) 52
      have ih := r_code (kk := kk) he c (n + 1) h' z s2 (sI M 102 a v) w2 w3 (C.2.of (fun j _ _ => ⟨congrFun (sI_cell (by decide)) j, congrFun (sI_cell (by decide)) j⟩)) S2 (by omega) (by omega)
      rw [u1] at ih
      rw [e1, e2]
      refine ⟨fun e => ?_, fun s' e => ?_⟩
      · obtain ⟨M', a1, a2, a3⟩ := ih.1 e
        exact ⟨M', a1, f1.tr a2, a3⟩
      · obtain ⟨M', a1, a2, a3, a4⟩ := ih.2 s' e
        refine ⟨M', ?_, f1.tr a2, a3.trans u2, a4⟩
        rw [a1, List.length_cons, show z + 1 - (c.length + 1) = z - c.length by omega, show n + 1 + c.length = n + (c.length + 1) by omega]
    rcases w with ⟨a1, a2, a3, a4, a5⟩ | ⟨a1, a2, a3, a4, a5⟩
    · rcases (by omega : x.1 = 0 ∨ x.1 = 1) with y | y
      · exact cont s.length (nI x.2) (nI x.2 :: s) S.push (by rw [List.length_cons]; exact a5) (by rw [List.length_cons]; omega) (rt_0 (by omega) he (by omega) (C.1.1.trans (by rw [y])) C.1.2) (evS_0 y)
      · exact cont s.length (M.1 101 x.2) (M.1 101 x.2 :: s) S.push (by rw [List.length_cons]; exact a5) (by rw [List.length_cons]; omega) (rt_1 (by omega) he (by omega) (a3 y) (C.1.1.trans (by rw [y])) C.1.2) (evS_1 y)
    · obtain ⟨b, a, r, rfl⟩ := two_l a4
      rw [List.length_cons, List.length_cons] at a5
      have hb : M.1 102 (r.length + 1) = b := S.1
      have ha : M.1 102 r.length = a := S.2.1
      rw [List.length_cons, List.length_cons] at a6
      have rn := rt_o (kk := kk) (fu := z) (h := r.length) (n := n) (e := e) (by omega) he (by omega) a1 a2 C.1.1
      rw [hb, ha] at rn
      by_cases y : x.1 = 5 ∧ b = 0
      · rw [if_pos y] at rn
        refine ⟨fun _ => ⟨sI M 67 52 1, rn, ⟨fun _ _ q => sI_cell q, fun _ q => sI_ix q, rfl⟩, sI_same⟩, fun s' e => ?_⟩
        rw [evS_o a1, if_pos y] at e
        cases e
      · rw [if_neg y] at rn
        exact cont r.length (apO x.1 a b) (apO x.1 a b :: r) S.2.2.push (by rw [List.length_cons]; exact a5) (by rw [List.length_cons]; omega) rn (by rw [evS_o a1, if_neg y])
/-- a code's value: none = a division by 0 -/
def evV (u : Nat → Int32) (c : List (Nat × Nat)) : Option Int32 := (evS u c []).bind List.head?
theorem ev_1 {u : Nat → Int32} {c : List (Nat × Nat)} (w : wfE 24 c 0 1) (s : List Int32) : evS u c s = (evV u c).map (· :: s) := by
  have h := evS_on (u := u) (s0 := s) (s := []) w rfl
  rw [List.nil_append] at h
  rw [h]
  unfold evV
  cases e : evS u c [] with
  | none => rfl
  | some s' =>
    have l := evS_len w rfl e
    match s', l with
    | [x], _ => rfl
theorem r_term {n : Nat} {c : List (Nat × Nat)} (w : wfE 24 c 0 1) (C : CM M n c) (hn : n + c.length ≤ 840) : ∃ M', f_X12_termOf (nI n) (nI (n + c.length)) M = some ((evV (M.1 101) c).getD 0, M') ∧ FrN [102] M M' ∧ M'.1 67 52 = (if (evV (M.1 101) c).isSome then M.1 67 52 else 1) := by
  have hFU : FU = 1000000 := rfl
  have R := r_code (kk := fun t26 => (ag t26 102 400 (0 : Int32)).bind fun v27 => some (v27, t26)) hn c n 1 FU [] M w (by decide) C trivial (Nat.le_refl _) (by omega)
  have e := ev_1 (u := M.1 101) w []
  unfold f_X12_termOf
  cases h : evV (M.1 101) c with
  | none =>
    rw [h] at e
    obtain ⟨M', a1, a2, a3⟩ := R.1 e
    exact ⟨M', a1, a2, a3⟩
  | some x =>
    rw [h] at e
    obtain ⟨M', a1, a2, a3, a4⟩ := R.2 [x] e
    refine ⟨M', ?_, a2, a3⟩
    have a1' : f_X12_termOf_L5 (fun t26 => (ag t26 102 400 (0 : Int32)).bind fun v27 => some (v27, t26)) FU (nI (n + c.length)) 0 (nI n) M = _ := a1
    rw [a1', show FU - c.length = (FU - c.length - 1) + 1 by omega, f_X12_termOf_L5, if_pos (nI_le (Nat.le_refl _) (by omega)), show (0 : Int32) = nI 0 from rfl, ag_n (by omega) (by omega), sb, show M'.1 102 0 = x from a4.1]
    rfl
end RTERM

-- 85.lw: pure: a law as class and reference keep it, and what it tells
section LWS
variable {lw t v : Nat} {M M' : Mem}
abbrev Cd := List (Nat × Nat)
def wfC (c : Cd) : Prop := wfE 24 c 0 1 ∧ wfE 24 c 1 2
def lwE (u : Nat → Int32) : List (Cd × Cd × Cd) → Cd → Int32
  | [], w => (evV u w).getD 0
  | b :: r, w => if (evV u b.1).isSome ∧ (evV u b.2.1).isSome then (if (evV u b.1).getD 0 < (evV u b.2.1).getD 0 then (evV u b.2.2).getD 0 else lwE u r w) else 0
def okB (B : List (Cd × Cd × Cd)) (w : Cd) : Prop := (∀ b ∈ B, wfC b.1 ∧ wfC b.2.1 ∧ wfC b.2.2) ∧ wfC w
theorem evS_cg {u u' : Nat → Int32} (e : ∀ i, i < 9 → u i = u' i) : ∀ {c : Cd} {h h' : Nat} {s : List Int32}, wfE 24 c h h' → s.length = h → evS u c s = evS u' c s
  | [], h, h', s, w, l => rfl
  | x :: c, h, h', s, w, l => by
    rcases w with ⟨a1, a2, a3, a4, a5⟩ | ⟨a1, a2, a3, a4, a5⟩
    · rcases (by omega : x.1 = 0 ∨ x.1 = 1) with y | y
      · rw [evS_0 y, evS_0 y]
        exact evS_cg e a5 (by rw [List.length_cons]; omega)
      · rw [evS_1 y, evS_1 y, e _ (a3 y)]
        exact evS_cg e a5 (by rw [List.length_cons]; omega)
    · obtain ⟨b, a, r, rfl⟩ := two_l (s := s) (by omega)
      rw [List.length_cons, List.length_cons] at l
      rw [evS_o a1, evS_o a1, evS_cg e (s := apO x.1 a b :: r) a5 (by rw [List.length_cons]; omega)]
theorem evV_cg {u u' : Nat → Int32} (e : ∀ i, i < 9 → u i = u' i) {c : Cd} (w : wfC c) : evV u c = evV u' c := by
  unfold evV
  rw [evS_cg e w.1 rfl]
theorem lwE_cg {u u' : Nat → Int32} (e : ∀ i, i < 9 → u i = u' i) : ∀ {B : List (Cd × Cd × Cd)} {w : Cd}, okB B w → lwE u B w = lwE u' B w
  | [], w, o => by unfold lwE; rw [evV_cg e o.2]
  | b :: r, w, o => by
    have h := o.1 b List.mem_cons_self
    unfold lwE
    rw [evV_cg e h.1, evV_cg e h.2.1, evV_cg e h.2.2, lwE_cg e ⟨fun x hx => o.1 x (List.mem_cons_of_mem _ hx), o.2⟩]
-- the class's
def lwZ : List (Cd × Cd × Cd) → Cd → Nat
  | [], w => w.length + 1
  | b :: r, w => b.1.length + b.2.1.length + b.2.2.length + 2 + lwZ r w
def LC0 (t : Nat) (M : Mem) : Nat → List (Cd × Cd × Cd) → Cd → Prop
  | n, [], w => CD t M n w ∧ M.1 (t + 9) (n + w.length) = nI (3 * 16384 + 0)
  | n, b :: r, w => CD t M n b.1 ∧ CD t M (n + b.1.length) b.2.1 ∧ M.1 (t + 9) (n + b.1.length + b.2.1.length) = nI (2 * 16384 + (n + b.1.length + b.2.1.length + 1 + b.2.2.length + 1)) ∧ CD t M (n + b.1.length + b.2.1.length + 1) b.2.2 ∧ M.1 (t + 9) (n + b.1.length + b.2.1.length + 1 + b.2.2.length) = nI (3 * 16384 + 0) ∧ LC0 t M (n + b.1.length + b.2.1.length + 1 + b.2.2.length + 1) r w
theorem CD.cg (h : M'.1 (t + 9) = M.1 (t + 9)) {n : Nat} {c : Cd} (C : CD t M n c) : CD t M' n c := C.of (fun q _ _ => congrFun h q)
theorem LC0.of : ∀ {B : List (Cd × Cd × Cd)} {w : Cd} {n : Nat}, LC0 t M n B w → (∀ q, n ≤ q → q < n + lwZ B w → M'.1 (t + 9) q = M.1 (t + 9) q) → LC0 t M' n B w
  | [], w, n, L, e => by
    unfold lwZ at e
    exact ⟨L.1.of (fun q a b => e q (by omega) (by omega)), (e _ (by omega) (by omega)).trans L.2⟩
  | b :: r, w, n, L, e => by
    unfold lwZ at e
    obtain ⟨a1, a2, a3, a4, a5, a6⟩ := L
    exact ⟨a1.of (fun q a b => e q (by omega) (by omega)), a2.of (fun q a b => e q (by omega) (by omega)), (e _ (by omega) (by omega)).trans a3, a4.of (fun q a b => e q (by omega) (by omega)), (e _ (by omega) (by omega)).trans a5, a6.of (fun q a b => e q (by omega) (by omega))⟩
/-- a term and the answer behind it -/
theorem c_ans {k : Mem → Option (Int32 × Mem)} {T n q fu : Nat} {w : Cd} (ht : isT t) (hL : isL lw) (ow : wfC w) (C : CD t M n w) (hA : M.1 (t + 9) (n + w.length) = nI (3 * 16384 + 0)) (h9 : M.1 t 9 = nI T) (hT : T ≤ 407) (hn : n + w.length < T) (hq : q ≤ n) (hf : w.length + 1 < fu) : ∃ M', f_X2_run_L8 lw t k fu 0 (nI n) (nI q) M = some ((evV (M.1 (lw + 1)) w).getD 0, M') ∧ FrD [lw + 2] M M' := by
  have hl : lw + 2 ≠ t ∧ lw + 2 ≠ t + 9 := by
    have := isT_le ht
    rcases hL with e | e <;> omega
  have R := c_code (k := k) ht hL w n q 1 fu [] M ow.1 (by decide) C trivial h9 hT hn hq (by omega)
  have e := ev_1 (u := M.1 (lw + 1)) ow.1 []
  cases h : evV (M.1 (lw + 1)) w with
  | none =>
    rw [h] at e
    exact R.1 e
  | some x =>
    rw [h] at e
    obtain ⟨M1, a1, a2, a3⟩ := R.2 [x] e
    refine ⟨M1, ?_, a2⟩
    have a1' : f_X2_run_L8 lw t k fu 0 (nI n) (nI q) M = f_X2_run_L8 lw t k (fu - w.length) (nI (0 + 1)) (nI (n + w.length)) (nI (q + w.length)) M1 := a1
    rw [a1', show fu - w.length = (fu - w.length - 1) + 1 by omega, rn_3 (T := T) ⟨(congrFun (a2.1 t (by simp; omega)) 9).trans h9, hT, hn, by omega⟩ ((congrFun (a2.1 (t + 9) (by simp; omega)) _).trans hA) (by omega), show M1.1 (lw + 2) 0 = x from a3.1]
    rfl
theorem c_lawrun {k : Mem → Option (Int32 × Mem)} {T : Nat} (ht : isT t) (hL : isL lw) : ∀ (B : List (Cd × Cd × Cd)) (w : Cd) (n q fu : Nat) (M : Mem), okB B w → LC0 t M n B w → M.1 t 9 = nI T → T ≤ 407 → n + lwZ B w ≤ T → q ≤ n → lwZ B w < fu → ∃ M', f_X2_run_L8 lw t k fu 0 (nI n) (nI q) M = some (lwE (M.1 (lw + 1)) B w, M') ∧ FrD [lw + 2] M M'
  | [], w, n, q, fu, M, o, L, h9, hT, hn, hq, hf => by
    unfold lwZ at hn hf
    exact c_ans ht hL o.2 L.1 L.2 h9 hT (by omega) hq (by omega)
  | b :: r, w, n, q, fu, M, o, L, h9, hT, hn, hq, hf => by
    unfold lwZ at hn hf
    have hl : lw + 2 ≠ t ∧ lw + 2 ≠ t + 9 ∧ lw + 2 ≠ lw + 1 := by
      have := isT_le ht
      rcases hL with e | e <;> omega
    have nt : t ∉ [lw + 2] := by simp; omega
    have n9 : t + 9 ∉ [lw + 2] := by simp; omega
    have n1 : lw + 1 ∉ [lw + 2] := by simp
    obtain ⟨o1, o2, o3⟩ := o.1 b List.mem_cons_self
    obtain ⟨l1, l2, l3, l4, l5, l6⟩ := L
    have R := c_code (k := k) ht hL b.1 n q 1 fu [] M o1.1 (by decide) l1 trivial h9 hT (by omega) hq (by omega)
    have e := ev_1 (u := M.1 (lw + 1)) o1.1 []
    unfold lwE
    cases h : evV (M.1 (lw + 1)) b.1 with
    | none =>
      rw [h] at e
      obtain ⟨M1, a1, a2⟩ := R.1 e
      exact ⟨M1, a1, a2⟩
    | some x =>
      rw [h] at e
      obtain ⟨M1, a1, a2, a3⟩ := R.2 [x] e
      have u1 := a2.1 (lw + 1) n1
      have t9 := a2.1 (t + 9) n9
      have a1' : f_X2_run_L8 lw t k fu 0 (nI n) (nI q) M = f_X2_run_L8 lw t k (fu - b.1.length) (nI [x].length) (nI (n + b.1.length)) (nI (q + b.1.length)) M1 := a1
      have R2 := c_code (k := k) ht hL b.2.1 (n + b.1.length) (q + b.1.length) 2 (fu - b.1.length) [x] M1 o2.2 (by rw [List.length_singleton]; omega) (l2.cg t9) a3 ((congrFun (a2.1 t nt) 9).trans h9) hT (by omega) (by omega) (by omega)
      rw [u1] at R2
      have e2 := ev_1 (u := M.1 (lw + 1)) o2.1 [x]
      rw [a1']
      cases h2 : evV (M.1 (lw + 1)) b.2.1 with
      | none =>
        rw [h2] at e2
        obtain ⟨M2, b1, b2⟩ := R2.1 e2
        exact ⟨M2, b1, a2.tr b2⟩
      | some y =>
        rw [h2] at e2
        obtain ⟨M2, b1, b2, b3⟩ := R2.2 [y, x] e2
        have F2 := a2.tr b2
        have t92 := F2.1 (t + 9) n9
        have h92 := (congrFun (F2.1 t nt) 9).trans h9
        have b1' : f_X2_run_L8 lw t k (fu - b.1.length) (nI [x].length) (nI (n + b.1.length)) (nI (q + b.1.length)) M1 = f_X2_run_L8 lw t k (fu - b.1.length - b.2.1.length) (nI (0 + 2)) (nI (n + b.1.length + b.2.1.length)) (nI (q + b.1.length + b.2.1.length)) M2 := b1
        rw [b1', show fu - b.1.length - b.2.1.length = (fu - b.1.length - b.2.1.length - 1) + 1 by omega, rn_2 (T := T) ⟨h92, hT, by omega, by omega⟩ ((congrFun t92 _).trans l3) (by omega) (by omega), show M2.1 (lw + 2) (0 + 1) = y from b3.1, show M2.1 (lw + 2) 0 = x from b3.2.1, if_pos (show (some x).isSome = true ∧ (some y).isSome = true from ⟨rfl, rfl⟩)]
        show ∃ M', f_X2_run_L8 lw t k _ 0 _ _ M2 = some (if x < y then (evV (M.1 (lw + 1)) b.2.2).getD 0 else lwE (M.1 (lw + 1)) r w, M') ∧ _
        rw [← F2.1 (lw + 1) n1]
        by_cases z : x < y
        · rw [if_neg (fun a => absurd z (Int32.not_lt.mpr a)), if_pos z]
          obtain ⟨M3, c1, c2⟩ := c_ans (k := k) (T := T) (q := q + b.1.length + b.2.1.length + 1) (fu := fu - b.1.length - b.2.1.length - 1) ht hL o3 (l4.cg t92) ((congrFun t92 _).trans l5) h92 hT (by omega) (by omega) (by omega)
          exact ⟨M3, c1, F2.tr c2⟩
        · rw [if_pos (Int32.not_lt.mp z), if_neg z]
          obtain ⟨M3, c1, c2⟩ := c_lawrun (k := k) (T := T) ht hL r w (n + b.1.length + b.2.1.length + 1 + b.2.2.length + 1) (q + b.1.length + b.2.1.length + 1) (fu - b.1.length - b.2.1.length - 1) M2 ⟨fun x hx => o.1 x (List.mem_cons_of_mem _ hx), o.2⟩ (l6.of (fun j _ _ => congrFun t92 j)) h92 hT (by omega) (by omega) (by omega)
          exact ⟨M3, c1, F2.tr c2⟩
end LWS

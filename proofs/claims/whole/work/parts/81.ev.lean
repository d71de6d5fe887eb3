-- 81.ev: pure: what a code comes to, and how class and reference reckon it
def apO (k : Nat) (a b : Int32) : Int32 := if k = 2 then a + b else if k = 3 then a - b else if k = 4 then a * b else a / b
def evS (u : Nat → Int32) : List (Nat × Nat) → List Int32 → Option (List Int32)
  | [], s => some s
  | x :: c, s => if x.1 = 0 then evS u c (nI x.2 :: s) else if x.1 = 1 then evS u c (u x.2 :: s) else match s with
    | b :: a :: r => if x.1 = 5 ∧ b = 0 then none else evS u c (apO x.1 a b :: r)
    | _ => none
def wfE (B : Nat) : List (Nat × Nat) → Nat → Nat → Prop
  | [], h, h' => h = h'
  | x :: c, h, h' => (x.1 < 2 ∧ h < B ∧ (x.1 = 1 → x.2 < 9) ∧ x.2 < 16384 ∧ wfE B c (h + 1) h') ∨ (2 ≤ x.1 ∧ x.1 ≤ 5 ∧ x.2 = 0 ∧ 2 ≤ h ∧ wfE B c (h - 1) h')
theorem wfE.app {B : Nat} : ∀ {c c2 : List (Nat × Nat)} {h h1 h2 : Nat}, wfE B c h h1 → wfE B c2 h1 h2 → wfE B (c ++ c2) h h2
  | [], c2, h, h1, h2, a, b => by
    have : h = h1 := a
    subst this
    exact b
  | x :: c, c2, h, h1, h2, a, b => by
    rcases a with ⟨a1, a2, a3, a4, a5⟩ | ⟨a1, a2, a3, a4, a5⟩
    · exact Or.inl ⟨a1, a2, a3, a4, wfE.app a5 b⟩
    · exact Or.inr ⟨a1, a2, a3, a4, wfE.app a5 b⟩
theorem evS_len {u : Nat → Int32} {B : Nat} : ∀ {c : List (Nat × Nat)} {h h' : Nat} {s s' : List Int32}, wfE B c h h' → s.length = h → evS u c s = some s' → s'.length = h'
  | [], h, h', s, s', w, e, r => by
    have : h = h' := w
    cases r
    omega
  | x :: c, h, h', s, s', w, e, r => by
    unfold evS at r
    rcases w with ⟨a1, a2, a3, a4, a5⟩ | ⟨a1, a2, a3, a4, a5⟩
    · rcases (by omega : x.1 = 0 ∨ x.1 = 1) with z | z
      · rw [if_pos z] at r
        exact evS_len a5 (by rw [List.length_cons]; omega) r
      · rw [if_neg (by omega), if_pos z] at r
        exact evS_len a5 (by rw [List.length_cons]; omega) r
    · rw [if_neg (by omega), if_neg (by omega)] at r
      match s, e, r with
      | [], e, r => cases r
      | [_], e, r => cases r
      | b :: a :: q, e, r =>
        rw [List.length_cons, List.length_cons] at e
        dsimp only at r
        by_cases z : x.1 = 5 ∧ b = 0
        · rw [if_pos z] at r
          cases r
        · rw [if_neg z] at r
          exact evS_len a5 (by rw [List.length_cons]; omega) r
theorem evS_on {u : Nat → Int32} {B : Nat} {s0 : List Int32} : ∀ {c : List (Nat × Nat)} {h h' : Nat} {s : List Int32}, wfE B c h h' → s.length = h → evS u c (s ++ s0) = (evS u c s).map (· ++ s0)
  | [], h, h', s, w, e => rfl
  | x :: c, h, h', s, w, e => by
    unfold evS
    rcases w with ⟨a1, a2, a3, a4, a5⟩ | ⟨a1, a2, a3, a4, a5⟩
    · rcases (by omega : x.1 = 0 ∨ x.1 = 1) with z | z
      · rw [if_pos z, if_pos z, ← List.cons_append]
        exact evS_on a5 (by rw [List.length_cons]; omega)
      · rw [if_neg (by omega), if_pos z, if_neg (by omega), if_pos z, ← List.cons_append]
        exact evS_on a5 (by rw [List.length_cons]; omega)
    · rw [if_neg (by omega), if_neg (by omega), if_neg (by omega), if_neg (by omega)]
      match s, e with
      | [], e => rw [List.length_nil] at e; omega
      | [_], e => rw [List.length_singleton] at e; omega
      | b :: a :: q, e =>
        rw [List.length_cons, List.length_cons] at e
        dsimp only [List.cons_append]
        by_cases z : x.1 = 5 ∧ b = 0
        · rw [if_pos z, if_pos z]
          rfl
        · rw [if_neg z, if_neg z]
          exact evS_on (s := apO x.1 a b :: q) a5 (by rw [List.length_cons]; omega)
theorem op_25 {k : Nat} (h : lvK k < 2) : 2 ≤ opK k ∧ opK k ≤ 5 := by
  rcases lvK_o h with z | z | z | z <;> subst z <;> decide
/-- what is read can be reckoned on few cells -/
theorem rd_wf {K V : Nat → Nat} {B : Nat} (hV : ∀ j, K j = 2 → V j < 16384) : ∀ (f lv d i : Nat) (r : List (Nat × Nat) × Nat), lv ≤ 2 → d ≤ 6 → rdG K V f lv d i = .ok r → ∀ h, h + (3 - lv + 2 * (6 - d)) ≤ B → wfE B r.1 h (h + 1)
  | 0, lv, d, i, r, hlv, hd, e => by cases e
  | f + 1, lv, d, i, r, hlv, hd, e => by
    intro h hB
    unfold rdG at e
    by_cases h2 : lv < 2
    · rw [if_pos h2] at e
      cases hr : rdG K V f (lv + 1) d i with
      | error x => rw [hr] at e; cases e
      | ok r1 =>
        rw [hr] at e
        have L : ∀ (m : Nat) (c : List (Nat × Nat)) (j : Nat) (y : List (Nat × Nat) × Nat), wfE B c h (h + 1) → rdL K (rdG K V f (lv + 1) d) lv m c j = .ok y → wfE B y.1 h (h + 1) := by
          intro m
          induction m with
          | zero => intro c j y w e; cases e; exact w
          | succ m ih =>
            intro c j y w e
            unfold rdL at e
            by_cases hl : lvK (K j) = lv
            · rw [if_pos hl] at e
              by_cases h4 : j < 400
              · rw [if_pos h4] at e
                cases hg : rdG K V f (lv + 1) d (j + 1) with
                | error x => rw [hg] at e; cases e
                | ok r2 =>
                  rw [hg] at e
                  refine ih _ _ _ (w.app ((rd_wf hV f (lv + 1) d (j + 1) r2 (by omega) hd hg (h + 1) (by omega)).app ?_)) e
                  have := op_25 (show lvK (K j) < 2 by omega)
                  exact Or.inr ⟨this.1, this.2, rfl, by omega, by show h + 1 + 1 - 1 = h + 1; omega⟩
              · rw [if_neg h4] at e
                cases e
            · rw [if_neg hl] at e
              cases e
              exact w
        exact L 401 r1.1 r1.2 r (rd_wf hV f (lv + 1) d i r1 (by omega) hd hr h (by omega)) e
    · rw [if_neg h2] at e
      by_cases k2 : K i = 2
      · rw [if_pos k2] at e
        by_cases h4 : i < 400
        · rw [if_pos h4] at e
          cases e
          exact Or.inl ⟨by show 0 < 2; omega, by omega, (fun z => by cases z), hV i k2, rfl⟩
        · rw [if_neg h4] at e; cases e
      · rw [if_neg k2] at e
        by_cases k34 : 34 ≤ K i ∧ K i ≤ 42
        · rw [if_pos k34] at e
          by_cases h4 : i < 400
          · rw [if_pos h4] at e
            cases e
            exact Or.inl ⟨by show 1 < 2; omega, by omega, fun _ => by show K i - 34 < 9; omega, by show K i - 34 < 16384; omega, rfl⟩
          · rw [if_neg h4] at e; cases e
        · rw [if_neg k34] at e
          by_cases k6 : K i = 6
          · rw [if_pos k6] at e
            by_cases d6 : 6 ≤ d
            · rw [if_pos d6] at e; cases e
            · rw [if_neg d6] at e
              by_cases h4 : i < 400
              · rw [if_pos h4] at e
                cases hg : rdG K V f 0 (d + 1) (i + 1) with
                | error x => rw [hg] at e; cases e
                | ok r2 =>
                  rw [hg] at e
                  dsimp only at e
                  by_cases k7 : K r2.2 = 7
                  · rw [if_pos k7] at e
                    by_cases h5 : r2.2 < 400
                    · rw [if_pos h5] at e
                      cases e
                      exact rd_wf hV f 0 (d + 1) (i + 1) r2 (by omega) (by omega) hg h (by omega)
                    · rw [if_neg h5] at e; cases e
                  · rw [if_neg k7] at e; cases e
              · rw [if_neg h4] at e; cases e
          · rw [if_neg k6] at e; cases e

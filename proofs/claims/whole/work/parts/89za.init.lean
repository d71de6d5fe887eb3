-- 89za.init: pure: what the constructors leave, the class's
section INI
variable {M M' : Mem} {lo hi : Nat}
/-- outside of lo .. hi all is as it was -/
def EqO (lo hi : Nat) (M M' : Mem) : Prop := ∀ a, (a < lo ∨ hi < a) → M'.1 a = M.1 a ∧ M'.2.1 a = M.2.1 a ∧ M'.2.2 a = M.2.2 a
theorem EqO.tr {M1 : Mem} (h : EqO lo hi M M1) (h' : EqO lo hi M1 M') : EqO lo hi M M' := fun a p => ⟨(h' a p).1.trans (h a p).1, (h' a p).2.1.trans (h a p).2.1, (h' a p).2.2.trans (h a p).2.2⟩
theorem EqO.sub {lo' hi' : Nat} (h : EqO lo' hi' M M') (h1 : lo ≤ lo') (h2 : hi' ≤ hi) : EqO lo hi M M' := fun a p => h a (by omega)
theorem nM_z {id : Nat} : (nM M id).1 id = fun _ => 0 := if_pos rfl
theorem nM_o {id a : Nat} (h : a ≠ id) : (nM M id).1 a = M.1 a ∧ (nM M id).2.1 a = M.2.1 a ∧ (nM M id).2.2 a = M.2.2 a := ⟨if_neg h, if_neg h, if_neg h⟩
theorem EqO.nw {id : Nat} (h1 : lo ≤ id) (h2 : id ≤ hi) : EqO lo hi M (nM M id) := fun a p => nM_o (by omega)
theorem EqO.ref {id k : Nat} {x : Option Nat} (h1 : lo ≤ id) (h2 : id ≤ hi) : EqO lo hi M (sR M id k x) := fun a p => ⟨rfl, rfl, if_neg (show ¬ a = id by omega)⟩
theorem EqO.wi {id k : Nat} {x : Int32} (h1 : lo ≤ id) (h2 : id ≤ hi) : EqO lo hi M (sI M id k x) := fun a p => ⟨sI_cell (by omega), rfl, rfl⟩
theorem EqO.jm {acc : List Int64} (h1 : lo ≤ 28) (h2 : 28 ≤ hi) : EqO lo hi M (jM M acc) := fun a p => ⟨rfl, funext (fun j => if_neg (fun z => by omega)), rfl⟩
theorem cf1_ok : ∃ M', cf_1 M = some M' ∧ EqO 1 10 M M' ∧ M'.1 1 9 = nI 6 ∧ (∀ j, 10 ≤ j → j ≤ 16 → M'.1 1 j = 0) ∧ LWc 1 6 (fun _ => []) dfC M' := by
  let A := nM (nM (nM (nM (nM (nM (nM (nM (nM M 2) 3) 4) 5) 6) 7) 8) 9) 10
  obtain ⟨M', e, g1, g2, g3, g4, g5⟩ := c_clearT (t := 1) (M := A) (Or.inl rfl)
  have fA : EqO 1 10 M A := (((((((((EqO.nw (by omega) (by omega)).tr (EqO.nw (by omega) (by omega))).tr (EqO.nw (by omega) (by omega))).tr (EqO.nw (by omega) (by omega))).tr (EqO.nw (by omega) (by omega))).tr (EqO.nw (by omega) (by omega))).tr (EqO.nw (by omega) (by omega))).tr (EqO.nw (by omega) (by omega))).tr (EqO.nw (by omega) (by omega)))
  refine ⟨M', ?_, fA.tr (fun a p => ⟨g1 a (by omega) (by omega) (by omega), by rw [g2], by rw [g2]⟩), g3, g4, g5⟩
  unfold cf_1
  rw [lt_def, lt_def, lt_def, lt_def, lt_def, lt_def, lt_def, lt_def, lt_def, show f_X9_clear 1 (nM (nM (nM (nM (nM (nM (nM (nM (nM M 2) 3) 4) 5) 6) 7) 8) 9) 10) = some M' from e, sb]
theorem cf11_ok : ∃ M', cf_11 M = some M' ∧ EqO 11 20 M M' := by
  let A := nM (nM (nM (nM (nM (nM (nM (nM (nM M 12) 13) 14) 15) 16) 17) 18) 19) 20
  obtain ⟨M', e, g1, g2, g3, g4, g5⟩ := c_clearT (t := 11) (M := A) (Or.inr rfl)
  have fA : EqO 11 20 M A := (((((((((EqO.nw (by omega) (by omega)).tr (EqO.nw (by omega) (by omega))).tr (EqO.nw (by omega) (by omega))).tr (EqO.nw (by omega) (by omega))).tr (EqO.nw (by omega) (by omega))).tr (EqO.nw (by omega) (by omega))).tr (EqO.nw (by omega) (by omega))).tr (EqO.nw (by omega) (by omega))).tr (EqO.nw (by omega) (by omega)))
  refine ⟨M', ?_, fA.tr (fun a p => ⟨g1 a (by omega) (by omega) (by omega), by rw [g2], by rw [g2]⟩)⟩
  unfold cf_11
  rw [lt_def, lt_def, lt_def, lt_def, lt_def, lt_def, lt_def, lt_def, lt_def, show f_X9_clear 11 (nM (nM (nM (nM (nM (nM (nM (nM (nM M 12) 13) 14) 15) 16) 17) 18) 19) 20) = some M' from e, sb]
theorem cf23_ok : ∃ M', cf_23 M = some M' ∧ EqO 23 30 M M' ∧ ∀ k, k < 23 → M'.2.1 28 k = kwL.getD k 0 := by
  let A := nM (nM (nM (nM (nM M 24) 25) 26) 27) 28
  let D := sR (nM (nM (jM A kwL) 29) 30) 23 5 (some 11)
  have fA : EqO 23 30 M A := ((((EqO.nw (by omega) (by omega)).tr (EqO.nw (by omega) (by omega))).tr (EqO.nw (by omega) (by omega))).tr (EqO.nw (by omega) (by omega))).tr (EqO.nw (by omega) (by omega))
  refine ⟨D, ?_, (((fA.tr (EqO.jm (by omega) (by omega))).tr (EqO.nw (by omega) (by omega))).tr (EqO.nw (by omega) (by omega))).tr (EqO.ref (by omega) (by omega)), fun k hk => ?_⟩
  · unfold cf_23 cf_24
    rw [lt_def, lt_def, lt_def, lt_def, lt_def, tok_go, sb, sb, lt_def, lt_def, lt_def]
  · show (nM (nM (jM A kwL) 29) 30).2.1 28 k = _
    rw [(nM_o (by decide)).2.1, (nM_o (by decide)).2.1]
    exact jM_k hk
/-- the class as it begins -/
theorem cf0_ok : ∃ M', cf_0 (nM M 0) = some M' ∧ (M'.2.2 0 9 = some 1 ∧ M'.2.2 0 10 = some 11) ∧ M'.1 0 11 = -1 ∧ M'.1 1 9 = nI 6 ∧ (∀ j, 10 ≤ j → j ≤ 16 → M'.1 1 j = 0) ∧ LWc 1 6 (fun _ => []) dfC M' ∧ (∀ k, k < 23 → M'.2.1 28 k = kwL.getD k 0) ∧ M'.1 48 2 = 1 ∧ M'.2.2 60 0 = some 1 ∧ ∀ a, a = 21 ∨ a = 53 ∨ a = 57 ∨ (60 ≤ a ∧ a ≤ 66) → ∀ j, M'.1 a j = 0 := by
  obtain ⟨A2, e2, f2, g9, g1, gL⟩ := cf1_ok (M := nM (nM M 0) 1)
  obtain ⟨A5, e5, f5⟩ := cf11_ok (M := nM A2 11)
  let A8 := nM (nM A5 21) 22
  obtain ⟨A11, e11, f11, k11⟩ := cf23_ok (M := nM A8 23)
  let A14 := nM (nM (nM A11 31) 32) 33
  let A17 := sR (nM (nM (nM (nM (nM (nM (nM (nM (nM (nM (nM A14 34) 35) 36) 37) 38) 39) 40) 41) 42) 43) 44) 38 0 (some 1)
  let A20 := nM (nM (nM A17 45) 46) 47
  let A23 := nM (nM (nM (sI (nM (nM A20 48) 49) 48 2 1) 50) 51) 52
  let A26 := nM (nM (nM (nM A23 53) 54) 55) 56
  let A29 := nM (nM (nM A26 57) 58) 59
  let A32 := sR (nM (nM (nM (nM (nM (nM (nM A29 60) 61) 62) 63) 64) 65) 66) 60 0 (some 1)
  let D := sI (sR (sR A32 0 9 (some 1)) 0 10 (some 11)) 0 11 (-1)
  have run : cf_0 (nM M 0) = some D := by
    unfold cf_0
    rw [lt_def, e2, sb, lt_def, e5, sb, lt_def]
    unfold cf_21
    rw [lt_def, sb, lt_def, show cf_23 (nM (nM (nM A5 21) 22) 23) = some A11 from e11, sb, lt_def]
    unfold cf_31
    rw [lt_def, lt_def, sb, lt_def]
    unfold cf_34 cf_35 cf_38
    rw [lt_def, lt_def, lt_def, sb, lt_def, lt_def, lt_def, lt_def, lt_def, lt_def, lt_def, lt_def, sb, sb, lt_def]
    unfold cf_45
    rw [lt_def, lt_def, sb, lt_def]
    unfold cf_48
    rw [lt_def, lt_def, lt_def, lt_def, lt_def, sb, lt_def]
    unfold cf_53
    rw [lt_def, lt_def, lt_def, sb, lt_def]
    unfold cf_57
    rw [lt_def, lt_def, sb, lt_def]
    unfold cf_60
    rw [lt_def, lt_def, lt_def, lt_def, lt_def, lt_def, lt_def, sb, lt_def, lt_def, lt_def]
  have n1 : ∀ {lo hi id : Nat} {X : Mem}, lo ≤ id → id ≤ hi → EqO lo hi X (nM X id) := fun h1 h2 => EqO.nw h1 h2
  have s1 : EqO 61 66 (nM A29 60) (nM (nM (nM (nM (nM (nM (nM A29 60) 61) 62) 63) 64) 65) 66) := (((((n1 (by omega) (by omega)).tr (n1 (by omega) (by omega))).tr (n1 (by omega) (by omega))).tr (n1 (by omega) (by omega))).tr (n1 (by omega) (by omega))).tr (n1 (by omega) (by omega))
  have s2 : EqO 60 66 A29 A32 := ((n1 (by omega) (by omega)).tr (s1.sub (by omega) (by omega))).tr (EqO.ref (by omega) (by omega))
  have s3 : EqO 58 66 (nM A26 57) A32 := ((n1 (by omega) (by omega)).tr (n1 (by omega) (by omega))).tr (s2.sub (by omega) (by omega))
  have s4 : EqO 54 66 (nM A23 53) A32 := (((n1 (by omega) (by omega)).tr (n1 (by omega) (by omega))).tr (n1 (by omega) (by omega))).tr ((n1 (by omega) (by omega)).tr (s3.sub (by omega) (by omega)))
  have s5 : EqO 49 66 (sI (nM (nM A20 48) 49) 48 2 1) A32 := (((n1 (by omega) (by omega)).tr (n1 (by omega) (by omega))).tr (n1 (by omega) (by omega))).tr ((n1 (by omega) (by omega)).tr (s4.sub (by omega) (by omega)))
  have s6 : EqO 48 66 A20 A32 := (((n1 (by omega) (by omega)).tr (n1 (by omega) (by omega))).tr (EqO.wi (by omega) (by omega))).tr (s5.sub (by omega) (by omega))
  have s7 : EqO 45 66 A17 A32 := (((n1 (by omega) (by omega)).tr (n1 (by omega) (by omega))).tr (n1 (by omega) (by omega))).tr (s6.sub (by omega) (by omega))
  have s8 : EqO 34 66 A14 A32 := ((((((((((((n1 (by omega) (by omega)).tr (n1 (by omega) (by omega))).tr (n1 (by omega) (by omega))).tr (n1 (by omega) (by omega))).tr (n1 (by omega) (by omega))).tr (n1 (by omega) (by omega))).tr (n1 (by omega) (by omega))).tr (n1 (by omega) (by omega))).tr (n1 (by omega) (by omega))).tr (n1 (by omega) (by omega))).tr (n1 (by omega) (by omega))).tr (EqO.ref (by omega) (by omega))).tr (s7.sub (by omega) (by omega))
  have s9 : EqO 31 66 A11 A32 := (((n1 (by omega) (by omega)).tr (n1 (by omega) (by omega))).tr (n1 (by omega) (by omega))).tr (s8.sub (by omega) (by omega))
  have s10 : EqO 22 66 (nM A5 21) A32 := (n1 (by omega) (by omega)).tr ((n1 (by omega) (by omega)).tr ((f11.sub (by omega) (by omega)).tr (s9.sub (by omega) (by omega))))
  have s11 : EqO 11 66 A2 A32 := (n1 (by omega) (by omega)).tr ((f5.sub (by omega) (by omega)).tr ((n1 (by omega) (by omega)).tr (s10.sub (by omega) (by omega))))
  have cD : ∀ a, a ≠ 0 → D.1 a = A32.1 a := fun a h => sI_cell h
  have c1 : ∀ a, 1 ≤ a → a ≤ 10 → D.1 a = A2.1 a := fun a p q => (cD a (by omega)).trans (s11 a (by omega)).1
  refine ⟨D, run, ⟨?_, ?_⟩, sI_same, ?_, fun j p q => ?_, gL.q (fun k hk => c1 (1 + k) (by omega) (by omega)), fun k hk => ?_, ?_, ?_, fun a ha j => ?_⟩
  · show (sR (sR A32 0 9 (some 1)) 0 10 (some 11)).2.2 0 9 = _
    simp [sR]
  · show (sR (sR A32 0 9 (some 1)) 0 10 (some 11)).2.2 0 10 = _
    simp [sR]
  · rw [c1 1 (by omega) (by omega)]; exact g9
  · rw [c1 1 (by omega) (by omega)]; exact g1 j p q
  · show A32.2.1 28 k = _
    rw [(s9 28 (by omega)).2.1]
    exact k11 k hk
  · rw [cD 48 (by decide), (s5 48 (by omega)).1]
    exact sI_same
  · show (sR (sR A32 0 9 (some 1)) 0 10 (some 11)).2.2 60 0 = some 1
    simp [sR, A32]
  · have zz : ∀ {X : Mem} {id : Nat}, (nM X id).1 id j = 0 := fun {X id} => by rw [nM_z]
    rw [cD a (by omega)]
    rcases ha with h | h | h | ⟨h, h'⟩
    · subst h
      rw [(s10 21 (by omega)).1]; exact zz
    · subst h
      rw [(s4 53 (by omega)).1]; exact zz
    · subst h
      rw [(s3 57 (by omega)).1]; exact zz
    · show (nM (nM (nM (nM (nM (nM (nM A29 60) 61) 62) 63) 64) 65) 66).1 a j = 0
      rcases (by omega : a = 60 ∨ a = 61 ∨ a = 62 ∨ a = 63 ∨ a = 64 ∨ a = 65 ∨ a = 66) with q | q | q | q | q | q | q <;> subst q <;> simp [nM]
end INI

-- 39.rlaw: pure: a law asked by the reference
theorem r_law {y k : Nat} {τ : Nat → Nat → Nat} {ρ : Nat → Nat} {F : Nat → (Nat → Int32) → Int32} {M : Mem} {h w pl : Int32} (LF : LawF F) (LM : LawM F M) (hk : k < 4) (hp : pl = if k = 0 then h else if k = 1 then 1 else 0) : ∃ M', f_X12_lawTells (nI k) pl (wrM M 101 0 (uV τ ρ y h w) 9) = some (F k (uV τ ρ y h w), M') ∧ FrN [101, 102] M M' := by
  have at0 : ∀ i, i < 9 → (wrM M 101 0 (uV τ ρ y h w) 9).1 101 i = uV τ ρ y h w i := fun i hi => by
    have := wr_at (M := M) (a := 101) (l := 0) (B := uV τ ρ y h w) hi
    rw [Nat.zero_add] at this
    exact this
  have h0 : (wrM M 101 0 (uV τ ρ y h w) 9).1 101 0 = h := at0 0 (by omega)
  obtain ⟨M', r1, r2⟩ := LM.use (wrM M 101 0 (uV τ ρ y h w) 9) (congrFun (wr_cell (by decide)) 18) (fun a h1 h2 => wr_cell (by omega)) k hk pl (by rw [h0]; exact hp)
  refine ⟨M', ?_, ?_⟩
  · rw [r1, LF k _ _ at0]
  · exact FrN.tr ⟨fun a ha _ => wr_cell (fun z => ha (by simp [z])), fun k _ => congrFun (wr_cell (by decide)) k, rfl⟩ (r2.sub (by decide))

theorem pure_law (SL : Nat) (hSL : SL ≤ 3072) (xs : Nat → Int32) (M : Mem) : ∃ M1 M2, cf_0 (nM M 0) = some M1 ∧ cf_67 (nM M1 67) = some M2 ∧ law_L SL xs FU 0 M2 = some () := sorry

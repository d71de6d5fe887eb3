-- 89h.find: pure: a name looked up by the class
section FND
variable {M : Mem}
/-- the first from k on, of m, that is x -/
def fsN (f : Nat → Int64) (x : Int64) : Nat → Nat → Option Nat
  | _, 0 => none
  | k, m + 1 => if f k = x then some k else fsN f x (k + 1) m
theorem fsN_lt {f : Nat → Int64} {x : Int64} : ∀ {m k j : Nat}, fsN f x k m = some j → k ≤ j ∧ j < k + m ∧ f j = x
  | 0, k, j, h => by cases h
  | m + 1, k, j, h => by
    unfold fsN at h
    by_cases e : f k = x
    · rw [if_pos e] at h
      cases h
      exact ⟨Nat.le_refl _, by omega, e⟩
    · rw [if_neg e] at h
      have := fsN_lt h
      exact ⟨by omega, by omega, this.2.2⟩
theorem fsN_no {f : Nat → Int64} {x : Int64} : ∀ {m k : Nat}, fsN f x k m = none → ∀ j, k ≤ j → j < k + m → f j ≠ x
  | 0, k, h, j, a, b => absurd b (by omega)
  | m + 1, k, h, j, a, b => by
    unfold fsN at h
    by_cases e : f k = x
    · rw [if_pos e] at h
      cases h
    · rw [if_neg e] at h
      by_cases q : j = k
      · rw [q]; exact e
      · exact fsN_no h j (by omega) (by omega)
theorem c_findL {c : Nat} {x : Int64} {kk : Unit → Option Int32} (h4 : M.1 23 4 = nI c) (hc : c ≤ 18) : ∀ (m k fu : Nat), m < fu → k + m = c → f_X6_find_L2 kk fu x (nI k) M = (match fsN (M.2.1 29) x k m with
    | some j => some (nI j)
    | none => kk ())
  | 0, k, fu, hf, hk => by
    obtain ⟨z, rfl⟩ : ∃ z, fu = z + 1 := ⟨fu - 1, by omega⟩
    rw [f_X6_find_L2, h4, if_pos (nI_le (by omega) (by omega))]
    rfl
  | m + 1, k, fu, hf, hk => by
    obtain ⟨z, rfl⟩ : ∃ z, fu = z + 1 := ⟨fu - 1, by omega⟩
    rw [f_X6_find_L2, h4, if_neg (nI_ge (by omega) (by omega)), aj_n (by omega) (by omega), sb]
    unfold fsN
    by_cases e : M.2.1 29 k = x
    · rw [if_pos ((lg_cmp_eq _ _).mpr e), if_pos e]
    · rw [if_neg (fun q => e ((lg_cmp_eq _ _).mp q)), if_neg e, nI_1, lt_def]
      exact c_findL h4 hc m (k + 1) z (by omega) (by omega)
theorem c_find {c : Nat} {x : Int64} (h4 : M.1 23 4 = nI c) (hc : c ≤ 18) : f_X6_find x M = some (match fsN (M.2.1 29) x 0 c with
    | some j => nI j
    | none => -1) := by
  have hFU : FU = 1000000 := rfl
  unfold f_X6_find
  have := c_findL (x := x) (kk := fun _ => some (-1 : Int32)) h4 hc c 0 FU (by omega) (by omega)
  rw [show (0 : Int32) = nI 0 from rfl, this]
  cases fsN (M.2.1 29) x 0 c <;> rfl
end FND

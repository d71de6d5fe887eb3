-- 89z.keys: pure: the key words that both begin with
section KEY
variable {M M' : Mem}
def kwL : List Int64 := [51382989, 283616147, 13596964, 464134, 4782078315, 3967858, 12322792, 1900846, 174879964, 1808912405, 377761, 249, 399641, 107681, 161156, 923, 289903041, 464144, 10284818, 168984, 146957, 12387257, 404923]
def tokW : Nat → Nat → Int64 → Nat → List Int64 → Option (List Int64)
  | 0, _, _, _, _ => none
  | fu + 1, w, nm, i, acc => if 132 ≤ i then some acc else if 23 ≤ w then some acc else if qch (nI i) = 32 then tokW fu (w + 1) 0 (i + 1) (acc ++ [nm]) else tokW fu w ((((nm * (27 : Int64)) + (qch (nI i)).toInt64) - (97 : Int64)) + (1 : Int64)) (i + 1) acc
set_option maxRecDepth 20000 in
theorem tokW_e : tokW 140 0 0 0 [] = some kwL := by decide +kernel
def jM (M : Mem) (acc : List Int64) : Mem := (M.1, fun a j => if a = 28 ∧ j < acc.length then acc.getD j 0 else M.2.1 a j, M.2.2)
theorem jM_0 : jM M [] = M := by
  unfold jM
  have : (fun a j => if a = 28 ∧ j < ([] : List Int64).length then ([] : List Int64).getD j 0 else M.2.1 a j) = M.2.1 := by
    funext a j
    rw [if_neg (fun z => absurd z.2 (by rw [List.length_nil]; omega))]
  rw [this]
theorem jM_s {acc : List Int64} {x : Int64} : sJ (jM M acc) 28 acc.length x = jM M (acc ++ [x]) := by
  have h : (sJ (jM M acc) 28 acc.length x).2.1 = (jM M (acc ++ [x])).2.1 := by
    funext a j
    rw [sJ1]
    show _ = (if a = 28 ∧ j < (acc ++ [x]).length then (acc ++ [x]).getD j 0 else M.2.1 a j)
    rw [List.length_append, List.length_singleton]
    by_cases e : a = 28 ∧ j = acc.length
    · obtain ⟨rfl, rfl⟩ := e
      rw [if_pos ⟨rfl, rfl⟩, if_pos ⟨rfl, by omega⟩]
      simp
    · rw [if_neg e]
      show (if a = 28 ∧ j < acc.length then acc.getD j 0 else M.2.1 a j) = _
      by_cases q : a = 28 ∧ j < acc.length
      · rw [if_pos q, if_pos ⟨q.1, by omega⟩]
        simp [List.getD, List.getElem?_append_left q.2]
      · rw [if_neg q, if_neg (fun z => by
          rcases Nat.lt_or_ge j acc.length with y | y
          · exact q ⟨z.1, y⟩
          · exact e ⟨z.1, by omega⟩)]
  exact Prod.ext rfl (Prod.ext h rfl)
theorem tokL_W : ∀ (m fu w : Nat) (nm : Int64) (i : Nat) (acc L : List Int64), m ≤ fu → w = acc.length → w ≤ 23 → i ≤ 132 → tokW m w nm i acc = some L → tokL fu (nI w) nm (nI i) (jM M acc) = some (jM M L)
  | 0, fu, w, nm, i, acc, L, hm, hw, h23, hi, h => by cases h
  | m + 1, fu, w, nm, i, acc, L, hm, hw, h23, hi, h => by
    obtain ⟨z, rfl⟩ : ∃ z, fu = z + 1 := ⟨fu - 1, by omega⟩
    unfold tokW at h
    rw [tokL, li 132, li 23]
    by_cases a : 132 ≤ i
    · rw [if_pos a] at h
      cases h
      rw [if_pos (nI_le a (by omega))]
    · rw [if_neg a] at h
      rw [if_neg (nI_ge (by omega) (by omega))]
      by_cases b : 23 ≤ w
      · rw [if_pos b] at h
        cases h
        rw [if_pos (nI_le b (by omega))]
      · rw [if_neg b] at h
        rw [if_neg (nI_ge (by omega) (by omega)), if_neg (nI_pos (by omega))]
        by_cases c : qch (nI i) = 32
        · rw [if_pos c] at h
          rw [if_pos c, pj_n (by omega) (by omega), sb, nI_1, nI_1, lt_def, lt_def]
          have e := jM_s (M := M) (acc := acc) (x := nm)
          rw [← hw] at e
          rw [e]
          exact tokL_W m z (w + 1) 0 (i + 1) (acc ++ [nm]) L (by omega) (by rw [List.length_append, List.length_singleton]; omega) (by omega) (by omega) h
        · rw [if_neg c] at h
          rw [if_neg c]
          unfold f_X8_spell
          rw [sb, nI_1, lt_def]
          exact tokL_W m z w _ (i + 1) acc L (by omega) hw h23 (by omega) h
theorem tok_go : tokL FU 0 0 0 M = some (jM M kwL) := by
  have hFU : FU = 1000000 := rfl
  have := tokL_W (M := M) 140 FU 0 0 0 [] kwL (by omega) rfl (by omega) (by omega) tokW_e
  rw [jM_0] at this
  exact this
theorem kw_ne : ∀ i, i < 23 → ∀ j, j < 23 → i < j → kwL.getD i 0 ≠ kwL.getD j 0 := by decide +kernel
theorem jM_k {k : Nat} (h : k < 23) : (jM M kwL).2.1 28 k = kwL.getD k 0 := if_pos ⟨rfl, h⟩
end KEY

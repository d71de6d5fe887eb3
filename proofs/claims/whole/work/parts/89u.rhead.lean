-- 89u.rhead: pure: how the reference begins to read
section HDR
variable {v : Nat} {M M' : Mem}
theorem b255 (x : Int32) : ∃ n, n < 256 ∧ x &&& 255 = nI n := by
  refine ⟨(x &&& 255).toBitVec.toNat, ?_, ?_⟩
  · rw [Int32.toBitVec_and, BitVec.toNat_and]
    have h : x.toBitVec.toNat &&& (255 : Int32).toBitVec.toNat ≤ (255 : Int32).toBitVec.toNat := Nat.and_le_right
    have e : (255 : Int32).toBitVec.toNat = 255 := by decide
    rw [e] at h ⊢
    omega
  · apply Int32.toBitVec_inj.mp
    show _ = BitVec.ofNat 32 ((x &&& 255).toBitVec.toNat)
    rw [BitVec.ofNat_toNat, BitVec.setWidth_eq]
theorem nar255 (x : Int32) : vp_nar .byte x &&& 255 = x &&& 255 := by
  rw [vp_nar_byte]
  apply Int32.toBitVec_inj.mp
  rw [Int32.toBitVec_and, Int32.toBitVec_and]
  have e : (x.toInt8.toInt32).toBitVec = (x.toBitVec.signExtend 8).signExtend 32 := by
    rw [Int8.toBitVec_toInt32, Int32.toBitVec_toInt8]
  rw [e]
  apply BitVec.eq_of_getLsbD_eq
  intro i hi
  rw [BitVec.getLsbD_and, BitVec.getLsbD_and, BitVec.getLsbD_signExtend]
  have h255 : ∀ i, i < 32 → (255 : Int32).toBitVec.getLsbD i = decide (i < 8) := by decide
  rw [h255 i hi]
  by_cases h : i < 8
  · rw [if_pos h, BitVec.getLsbD_signExtend, if_pos hi, decide_eq_true h, decide_eq_true hi, Bool.true_and, Bool.true_and]
  · rw [decide_eq_false h, Bool.and_false, Bool.and_false]
/-- what the reference's reader may write: side v and its own cells -/
def FR (v : Nat) (M M' : Mem) : Prop := (∀ a, a ≠ 67 → (a < 69 ∨ 100 < a) → M'.1 a = M.1 a) ∧ (∀ i, i ∉ [2, 4, 10, 11, 12, 13, 14, 15, 16, 17, 19, 20, 39, 45, 49] → M'.1 67 i = M.1 67 i) ∧ (∀ a i, sdR (1 - v) a i → M'.1 a i = M.1 a i) ∧ (∀ a, a ≠ 73 → a ≠ 75 → M'.2.1 a = M.2.1 a) ∧ M'.2.2 = M.2.2
theorem FR.tr {M1 : Mem} (h : FR v M M1) (h' : FR v M1 M') : FR v M M' := ⟨fun a p q => (h'.1 a p q).trans (h.1 a p q), fun i p => (h'.2.1 i p).trans (h.2.1 i p), fun a i p => (h'.2.2.1 a i p).trans (h.2.2.1 a i p), fun a p q => (h'.2.2.2.1 a p q).trans (h.2.2.2.1 a p q), h'.2.2.2.2.trans h.2.2.2.2⟩
theorem FR.fd {i : Nat} {x : Int32} (h : i ∈ [2, 4, 10, 11, 12, 13, 14, 15, 16, 17, 19, 20, 39, 45, 49]) : FR v M (sI M 67 i x) := ⟨fun a p _ => sI_cell p, fun j p => sI_ix (fun z => p (z ▸ h)), fun a j p => by have := sdR_67 p; exact congrFun (sI_cell (by omega)) j, fun _ _ _ => rfl, rfl⟩
theorem FR.wr {a j : Nat} {x : Int32} (ha : 77 ≤ a) (hb : a ≤ 99) (h : ¬ sdR (1 - v) a j) : FR v M (sI M a j x) := by
  refine ⟨fun b p q => sI_cell (by omega), fun i _ => congrFun (sI_cell (by omega)) i, fun b i p => ?_, fun _ _ _ => rfl, rfl⟩
  by_cases e : b = a
  · subst e
    exact sI_ix (fun z => h (z ▸ p))
  · exact congrFun (sI_cell e) i
theorem FH.fr (h : FH v M M') : FR v M M' := ⟨fun a p q => h.1 a p (by omega), fun i p => h.2.1 i (fun z => p (by simp only [List.mem_cons, List.not_mem_nil, or_false] at z ⊢; omega)), h.2.2.1, fun a _ p => h.2.2.2.1 a p, h.2.2.2.2⟩
theorem FrU.fr (h : FrU M M') : FR v M M' := ⟨fun a p q => h.1 a (by omega) (by omega) (by omega) p, fun i p => h.2.1 i (fun z => p (by rw [z]; decide)), fun a j p => by have := sdR_67 p; rw [h.1 a (by omega) (by omega) (by omega) (by omega)], fun a p _ => h.2.2.1 a p, h.2.2.2⟩
theorem FR.wm {l n : Nat} {B : Nat → Int32} : FR v M (wrM M 69 l B n) := ⟨fun a p q => wr_cell (by omega), fun i _ => congrFun (wr_cell (by decide)) i, fun a j p => by have := sdR_67 p; exact congrFun (wr_cell (by omega)) j, fun _ _ _ => rfl, rfl⟩
theorem r_cpy {len : Nat} (hl : len ≤ 2000) (h4 : M.1 67 4 = nI len) : f_X12_read_L10 FU 0 M = some (wrM M 69 0 (fun i => vp_nar .byte (M.1 68 i)) len) := by
  have key : f_X12_read_L10 FU (nI 0) (wrM M 69 0 (fun i => vp_nar .byte (M.1 68 i)) 0) = some (wrM M 69 0 (fun i => vp_nar .byte (M.1 68 i)) len) := by
    refine loop0 (fun fu y => f_X12_read_L10 fu (nI y) (wrM M 69 0 (fun i => vp_nar .byte (M.1 68 i)) y)) _ len (by omega) (fun fu => ?_) (fun fu y hy => ?_)
    · show f_X12_read_L10 (fu + 1) _ _ = some (wrM M 69 0 (fun i => vp_nar .byte (M.1 68 i)) len)
      rw [f_X12_read_L10, show (wrM M 69 0 (fun i => vp_nar .byte (M.1 68 i)) len).1 67 4 = nI len from (congrFun (wr_cell (by decide)) 4).trans h4, if_pos (nI_le (Nat.le_refl _) (by omega))]
    · show f_X12_read_L10 (fu + 1) _ _ = f_X12_read_L10 fu _ _
      rw [f_X12_read_L10, show (wrM M 69 0 (fun i => vp_nar .byte (M.1 68 i)) y).1 67 4 = nI len from (congrFun (wr_cell (by decide)) 4).trans h4, if_neg (nI_ge hy (by omega)), ag_n (by omega) (by omega), sb, pb_n (by omega) (by omega), sb, lt_def, nI_1, show (wrM M 69 0 (fun i => vp_nar .byte (M.1 68 i)) y).1 68 y = M.1 68 y from congrFun (wr_cell (by decide)) y]
      have := wr_s (M := M) (a := 69) (l := 0) (n := y) (B := fun i => vp_nar .byte (M.1 68 i))
      rw [Nat.zero_add] at this
      rw [this]
  rw [wr_0] at key
  exact key
end HDR

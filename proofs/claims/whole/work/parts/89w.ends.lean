-- 89w.ends: pure: a town read is a town begun
section ENS
variable {t v : Nat} {τ : Nat → Nat → Nat} {M M' : Mem}
/-- the night that a new town begins with -/
def rhN (τ : Nat → Nat → Nat) : Nat → Nat := fun k => if k < tY τ then τ 6 k else if 36 ≤ k ∧ k < 36 + tW τ then τ 7 (k - 36) else if k = 46 then τ 0 6 else 0
theorem rh_0 {k : Nat} (h1 : tY τ ≤ k) (h2 : k < 36 ∨ 36 + tW τ ≤ k) (h3 : k ≠ 46) : rhN τ k = 0 := by
  unfold rhN
  rw [if_neg (by omega), if_neg (by omega), if_neg h3]
theorem rh_y {k : Nat} (h : k < tY τ) : rhN τ k = τ 6 k := if_pos h
theorem rh_w {w : Nat} (hY : tY τ ≤ 6) (h : w < tW τ) : rhN τ (36 + w) = τ 7 w := by
  unfold rhN
  rw [if_neg (by omega), if_pos (by omega), show 36 + w - 36 = w by omega]
theorem rh_46 (hY : tY τ ≤ 6) (hW : tW τ ≤ 5) : rhN τ 46 = τ 0 6 := by
  unfold rhN
  rw [if_neg (by omega), if_neg (by omega), if_pos rfl]
theorem wfN_00 (hC : tC τ ≤ 7) (hY : tY τ ≤ 6) (hW : tW τ ≤ 5) (x : wfX τ) : wfN τ (rhN τ) := by
  obtain ⟨x1, x2, x3, x4, x5, x6⟩ := x
  refine ⟨fun y hy => ?_, fun y hy => ?_, fun w hw => ?_, fun h => ?_⟩
  · rw [rh_y hy]; exact x4 y hy
  · rw [rh_0 (k := 6 + y) (by omega) (by omega) (by omega), rh_0 (k := 12 + y) (by omega) (by omega) (by omega), rh_0 (k := 30 + y) (by omega) (by omega) (by omega)]
    exact ⟨by omega, by omega, by omega, fun _ => rfl, fun _ => ⟨rfl, rfl, rfl⟩⟩
  · rcases Nat.lt_or_ge w (tW τ) with q | q
    · rw [rh_w hY q]; exact x5 w q
    · rw [rh_0 (by omega) (by omega) (by omega)]; omega
  · rw [rh_46 hY hW]
    omega
theorem msk_z {p : Nat → Bool} : ∀ {n : Nat}, (∀ k, k < n → p k = false) → mskN p n = 0
  | 0, _ => rfl
  | n + 1, h => by
    rw [mskN_s, msk_z (fun k hk => h k (by omega)), h n (by omega)]
    rfl
def bgM (t w : Nat) (M : Mem) : Mem := cpM (cpM (wrM (wrM (wrM (wrM (wrM (sI (sI (sI (sI (sR M 60 0 (some t)) 60 1 0) 60 2 (M.1 t 14)) 60 3 0) 60 4 0) 62 0 (fun _ => 0) 6) 63 0 (fun _ => 0) 6) 64 0 (fun _ => 0) 6) 65 0 (fun _ => 0) 5) 66 0 (fun _ => 0) 5) (t + 6) 61 0 0 6) (t + 7) 65 0 0 w
theorem bg_cell {w a : Nat} (h : a < 60 ∨ 66 < a) : (bgM t w M).1 a = M.1 a := by
  unfold bgM
  rw [cp_cell (by omega), cp_cell (by omega), wr_cell (by omega), wr_cell (by omega), wr_cell (by omega), wr_cell (by omega), wr_cell (by omega), sI_cell (by omega), sI_cell (by omega), sI_cell (by omega), sI_cell (by omega)]
  rfl
theorem c_begN (ht : isT t) (h13 : M.1 t 13 = nI (tW τ)) (hW : tW τ ≤ 5) : f_X3_begin 60 t M = some (bgM t (tW τ) M) := by
  have l8 := isT_le ht
  have e14 : ∀ {x : Int32}, (sI (sR M 60 0 (some t)) 60 1 x).1 t 14 = M.1 t 14 := fun {x} => congrFun (sI_cell (by omega)) 14
  unfold f_X3_begin
  rw [lt_def, lt_def, e14, lt_def, lt_def, lt_def, c_fill (by omega), sb, c_fill (by omega), sb, c_fill (by omega), sb, c_fill (by omega), sb, c_fill (by omega), sb, li 6, show (0 : Int32) = nI 0 from rfl, cp_n (by omega) (by omega) (by omega) (by omega), sb]
  have e13 : (cpM (wrM (wrM (wrM (wrM (wrM (sI (sI (sI (sI (sR M 60 0 (some t)) 60 1 (nI 0)) 60 2 (M.1 t 14)) 60 3 (nI 0)) 60 4 (nI 0)) (60 + 2) 0 (fun _ => nI 0) 6) (60 + 3) 0 (fun _ => nI 0) 6) (60 + 4) 0 (fun _ => nI 0) 6) (60 + 5) 0 (fun _ => nI 0) 5) (60 + 6) 0 (fun _ => nI 0) 5) (t + 6) (60 + 1) 0 0 6).1 t 13 = nI (tW τ) := by
    rw [cp_cell (by omega), wr_cell (by omega), wr_cell (by omega), wr_cell (by omega), wr_cell (by omega), wr_cell (by omega), sI_cell (by omega), sI_cell (by omega), sI_cell (by omega), sI_cell (by omega)]
    exact h13
  rw [e13, cp_n (by omega) (by omega) (by omega) (by omega), sb]
  rfl
theorem wr0 {a b l n j : Nat} : (wrM M a l (fun _ => 0) n).1 b j = if b = a ∧ l ≤ j ∧ j < l + n then 0 else M.1 b j := rfl
theorem NC_00 (ht : isT t) (hY : tY τ ≤ 6) (hW : tW τ ≤ 5) (P : PCt t τ M) : NC 60 t τ (rhN τ) (bgM t (tW τ) M) := by
  have l8 := isT_le ht
  obtain ⟨q1, q2, q3, q4, q5, q6⟩ := P
  have c60 : ∀ j, (bgM t (tW τ) M).1 60 j = (sI (sI (sI (sI (sR M 60 0 (some t)) 60 1 0) 60 2 (M.1 t 14)) 60 3 0) 60 4 0).1 60 j := fun j => by
    unfold bgM
    rw [cp_cell (by omega), cp_cell (by omega), wr_cell (by omega), wr_cell (by omega), wr_cell (by omega), wr_cell (by omega), wr_cell (by omega)]
  have ca : ∀ a, a ≠ 60 → (sI (sI (sI (sI (sR M 60 0 (some t)) 60 1 0) 60 2 (M.1 t 14)) 60 3 0) 60 4 0).1 a = M.1 a := fun a h => (sI_cell h).trans ((sI_cell h).trans ((sI_cell h).trans (sI_cell h)))
  refine ⟨Or.inr rfl, ?_, ?_, fun _ => ?_, ?_, ?_, fun y hy => ?_, fun y hy => ?_, fun w hw => ?_⟩
  · show (sR M 60 0 (some t)).2.2 60 0 = some t
    simp [sR]
  · rw [c60, rh_0 (by omega) (by omega) (by omega)]
    simp [sI1]
    rfl
  · rw [c60, rh_46 hY hW, ← q1]
    simp [sI1]
  · rw [c60, msk_z (fun k hk => ?_)]
    · simp [sI1]
      rfl
    · unfold hmB
      rw [rh_0 (by omega) (by omega) (by omega)]
      rfl
  · rw [c60, msk_z (fun k hk => ?_)]
    · simp [sI1]
      rfl
    · unfold rgB
      rw [rh_0 (by omega) (by omega) (by omega)]
      rfl
  · rw [rh_y hy, ← (q5 y hy).2.2]
    show (cpM _ _ _ _ _ _).1 61 y = _
    rw [cp_cell (by omega), cp1, if_pos (by omega), wr_cell (by omega), wr_cell (by omega), wr_cell (by omega), wr_cell (by omega), wr_cell (by omega), ca _ (by omega), Nat.zero_add, Nat.sub_zero]
  · rw [rh_0 (by omega) (by omega) (by omega), rh_0 (k := 18 + y) (by omega) (by omega) (by omega), rh_0 (k := 24 + y) (by omega) (by omega) (by omega)]
    refine ⟨?_, ?_, ?_⟩
    · show (cpM _ _ _ _ _ _).1 62 y = _
      rw [cp_cell (by omega), cp_cell (by omega), wr_cell (by omega), wr_cell (by omega), wr_cell (by omega), wr_cell (by omega), wr0, if_pos (by omega)]
      rfl
    · show (cpM _ _ _ _ _ _).1 63 y = _
      rw [cp_cell (by omega), cp_cell (by omega), wr_cell (by omega), wr_cell (by omega), wr_cell (by omega), wr0, if_pos (by omega)]
      rfl
    · show (cpM _ _ _ _ _ _).1 64 y = _
      rw [cp_cell (by omega), cp_cell (by omega), wr_cell (by omega), wr_cell (by omega), wr0, if_pos (by omega)]
      rfl
  · rw [rh_0 (k := 41 + w) (by omega) (by omega) (by omega)]
    refine ⟨?_, ?_⟩
    · show (cpM _ _ _ _ _ _).1 65 w = _
      rw [cp1]
      rcases Nat.lt_or_ge w (tW τ) with q | q
      · rw [rh_w hY q, ← q6 w q, if_pos (by omega), cp_cell (by omega), wr_cell (by omega), wr_cell (by omega), wr_cell (by omega), wr_cell (by omega), wr_cell (by omega), ca _ (by omega), Nat.zero_add, Nat.sub_zero]
      · rw [rh_0 (by omega) (by omega) (by omega), if_neg (by omega), cp_cell (by omega), wr_cell (by omega), wr0, if_pos (by omega)]
        rfl
    · show (cpM _ _ _ _ _ _).1 66 w = _
      rw [cp_cell (by omega), cp_cell (by omega), wr0, if_pos (by omega)]
      rfl
theorem NC.cg {ρ : Nat → Nat} (h : NC 60 t τ ρ M) (e : ∀ a, 60 ≤ a → a ≤ 66 → M'.1 a = M.1 a) (e2 : M'.2.2 60 = M.2.2 60) : NC 60 t τ ρ M' := by
  unfold NC at h ⊢
  rw [e 60 (by decide) (by decide), e (60 + 1) (by decide) (by decide), e (60 + 2) (by decide) (by decide), e (60 + 3) (by decide) (by decide), e (60 + 4) (by decide) (by decide), e (60 + 5) (by decide) (by decide), e (60 + 6) (by decide) (by decide), e2]
  exact h
/-- the class settles in the town read -/
theorem c_settle {t' : Nat} (ht : isT t) (ht' : isT t') (r9 : M.2.2 0 9 = some t) (r10 : M.2.2 0 10 = some t') (C : CNt t' τ M) (P : PCt t' τ M) (hY : tY τ ≤ 6) (hW : tW τ ≤ 5) : ∃ M', f_X11_settle M = some M' ∧ (∀ a, a ≠ 48 → a ≠ 53 → a ≠ 57 → (a < 60 ∨ 66 < a) → M'.1 a = M.1 a) ∧ M'.2.1 = M.2.1 ∧ (M'.2.2 0 9 = some t' ∧ M'.2.2 0 10 = some t) ∧ NC 60 t' τ (rhN τ) M' ∧ M'.1 57 0 = 0 ∧ M'.1 57 1 = 0 ∧ M'.1 57 4 = M.1 57 4 ∧ M'.1 53 0 = 0 ∧ M'.1 48 2 = 1 := by
  have l8 := isT_le ht'
  let A := sR (sR M 0 9 (some t')) 0 10 (some t)
  have a1 : A.1 = M.1 := rfl
  have a9 : A.2.2 0 9 = some t' := by
    show (sR (sR M 0 9 (some t')) 0 10 (some t)).2.2 0 9 = _
    simp [sR]
  have eb : f_X3_begin 60 t' A = some (bgM t' (tW τ) A) := c_begN ht' C.2.2.2 hW
  let D := sI (sI (sI (sI (bgM t' (tW τ) A) 57 0 0) 57 1 0) 53 0 0) 48 2 1
  have cD : ∀ a, a ≠ 48 → a ≠ 53 → a ≠ 57 → D.1 a = (bgM t' (tW τ) A).1 a := fun a h1 h2 h3 => (sI_cell h1).trans ((sI_cell h2).trans ((sI_cell h3).trans (sI_cell h3)))
  refine ⟨D, ?_, fun a h1 h2 h3 h4 => (cD a h1 h2 h3).trans (bg_cell h4), rfl, ⟨?_, ?_⟩, (NC_00 ht' hY hW (M := A) P).cg (fun a p q => cD a (by omega) (by omega) (by omega)) rfl, ?_, ?_, ?_, ?_, sI_same⟩
  · unfold f_X11_settle
    rw [rT_n r9 ht, sb, rT_n r10 ht', sb, lt_def, lt_def, rT_n (M := sR (sR M 0 9 (some t')) 0 10 (some t)) a9 ht', sb, show f_X3_begin 60 t' (sR (sR M 0 9 (some t')) 0 10 (some t)) = some (bgM t' (tW τ) A) from eb, sb]
    unfold f_X4_clear
    rw [lt_def, lt_def, sb, lt_def, lt_def]
  · show (sR A 60 0 (some t')).2.2 0 9 = some t'
    simp [sR]
    exact a9
  · show (sR A 60 0 (some t')).2.2 0 10 = some t
    simp [sR, A]
  · exact (congrFun (sI_cell (by decide)) 0).trans ((congrFun (sI_cell (by decide)) 0).trans ((sI_ix (by decide)).trans sI_same))
  · exact (congrFun (sI_cell (by decide)) 1).trans ((congrFun (sI_cell (by decide)) 1).trans sI_same)
  · exact (congrFun (sI_cell (by decide)) 4).trans ((congrFun (sI_cell (by decide)) 4).trans ((sI_ix (by decide)).trans ((sI_ix (by decide)).trans (congrFun (bg_cell (by omega)) 4))))
  · exact (congrFun (sI_cell (by decide)) 0).trans sI_same
/-- the reference begins -/
theorem r_b48 : f_X12_begins_L2 FU 0 M = some (wrM M 104 0 (fun _ => 0) 48) := by
  have key : f_X12_begins_L2 FU (nI 0) (wrM M 104 0 (fun _ => 0) 0) = some (wrM M 104 0 (fun _ => 0) 48) := by
    refine loop0 (fun fu y => f_X12_begins_L2 fu (nI y) (wrM M 104 0 (fun _ => 0) y)) _ 48 (by omega) (fun fu => ?_) (fun fu y hy => ?_)
    · show f_X12_begins_L2 (fu + 1) _ _ = some _
      rw [f_X12_begins_L2, li 48, if_pos (nI_le (Nat.le_refl _) (by omega))]
    · show f_X12_begins_L2 (fu + 1) _ _ = f_X12_begins_L2 fu _ _
      rw [f_X12_begins_L2, li 48, if_neg (nI_ge hy (by omega)), pg_n hy (by omega), sb, nI_1, lt_def]
      have := wr_s (M := M) (a := 104) (l := 0) (n := y) (B := fun _ => 0)
      rw [Nat.zero_add] at this
      rw [this]
  rw [wr_0] at key
  exact key
theorem r_bY (hv : v ≤ 1) (h18 : M.1 67 18 = nI v) (h82 : M.1 82 v = nI (tY τ)) (hY : tY τ ≤ 6) : f_X12_begins_L23 FU 0 M = some (wrM M 104 0 (fun y => M.1 85 (6 * v + y)) (tY τ)) := by
  have key : f_X12_begins_L23 FU (nI 0) (wrM M 104 0 (fun y => M.1 85 (6 * v + y)) 0) = some (wrM M 104 0 (fun y => M.1 85 (6 * v + y)) (tY τ)) := by
    have c : ∀ y a, a ≠ 104 → (wrM M 104 0 (fun y => M.1 85 (6 * v + y)) y).1 a = M.1 a := fun y a h => wr_cell h
    refine loop0 (fun fu y => f_X12_begins_L23 fu (nI y) (wrM M 104 0 (fun y => M.1 85 (6 * v + y)) y)) _ (tY τ) (by omega) (fun fu => ?_) (fun fu y hy => ?_)
    · show f_X12_begins_L23 (fu + 1) _ _ = some _
      rw [f_X12_begins_L23, c _ 67 (by decide), h18, ag_n (by omega) (by omega), sb, c _ 82 (by decide), h82, if_pos (nI_le (Nat.le_refl _) (by omega))]
    · show f_X12_begins_L23 (fu + 1) _ _ = f_X12_begins_L23 fu _ _
      rw [f_X12_begins_L23, c _ 67 (by decide), h18, ag_n (by omega) (by omega), sb, c _ 82 (by decide), h82, if_neg (nI_ge hy (by omega)), show (6 : Int32) = nI 6 from rfl, ix_m, ag_n (by omega) (by omega), sb, c _ 85 (by decide), pg_n (by omega) (by omega), sb, nI_1, lt_def]
      have := wr_s (M := M) (a := 104) (l := 0) (n := y) (B := fun y => M.1 85 (6 * v + y))
      rw [Nat.zero_add] at this
      rw [this]
  rw [wr_0] at key
  exact key
theorem r_bW (hv : v ≤ 1) (h18 : M.1 67 18 = nI v) (h86 : M.1 86 v = nI (tW τ)) (hW : tW τ ≤ 5) : f_X12_begins_L64 FU 0 M = some (wrM M 104 36 (fun y => M.1 87 (5 * v + y)) (tW τ)) := by
  have key : f_X12_begins_L64 FU (nI 0) (wrM M 104 36 (fun y => M.1 87 (5 * v + y)) 0) = some (wrM M 104 36 (fun y => M.1 87 (5 * v + y)) (tW τ)) := by
    have c : ∀ y a, a ≠ 104 → (wrM M 104 36 (fun y => M.1 87 (5 * v + y)) y).1 a = M.1 a := fun y a h => wr_cell h
    refine loop0 (fun fu y => f_X12_begins_L64 fu (nI y) (wrM M 104 36 (fun y => M.1 87 (5 * v + y)) y)) _ (tW τ) (by omega) (fun fu => ?_) (fun fu y hy => ?_)
    · show f_X12_begins_L64 (fu + 1) _ _ = some _
      rw [f_X12_begins_L64, c _ 67 (by decide), h18, ag_n (by omega) (by omega), sb, c _ 86 (by decide), h86, if_pos (nI_le (Nat.le_refl _) (by omega))]
    · show f_X12_begins_L64 (fu + 1) _ _ = f_X12_begins_L64 fu _ _
      rw [f_X12_begins_L64, c _ 67 (by decide), h18, ag_n (by omega) (by omega), sb, c _ 86 (by decide), h86, if_neg (nI_ge hy (by omega)), show (5 : Int32) = nI 5 from rfl, ix_m, ag_n (by omega) (by omega), sb, c _ 87 (by decide), show (36 : Int32) = nI 36 from rfl, nI_add, pg_n (by omega) (by omega), sb, nI_1, lt_def, wr_s]
  rw [wr_0] at key
  exact key
theorem r_keepR : f_X12_keepsRow M = some (cpM M 104 103 0 0 48) := by
  have key : f_X12_keepsRow_L2 FU 0 M = some (cpM M 104 103 0 0 48) := by
    have h := loop0 (fun fu y => f_X12_keepsRow_L2 fu (nI y) (cpM M 104 103 0 0 y)) (some (cpM M 104 103 0 0 48)) 48 (by omega) (fun fu => ?_) (fun fu y hy => ?_)
    · rw [cpM_0] at h
      exact h
    · show f_X12_keepsRow_L2 (fu + 1) _ _ = _
      rw [f_X12_keepsRow_L2, li 48, if_pos (nI_le (Nat.le_refl _) (by omega))]
    · show f_X12_keepsRow_L2 (fu + 1) _ _ = f_X12_keepsRow_L2 fu _ _
      rw [f_X12_keepsRow_L2, li 48, if_neg (nI_ge hy (by omega)), ag_n hy (by omega), sb, pg_n hy (by omega), sb, nI_1, lt_def, cp_cell (by decide)]
      have := cpM_s (M := M) (a := 104) (b := 103) (sp := 0) (dp := 0) (y := y)
      rw [Nat.zero_add] at this
      rw [this]
  unfold f_X12_keepsRow
  rw [key, sb]
end ENS

-- 09.lib: Math, arraycopy
theorem w_mmax : Cond.code Lib.Math.max.name Lib.Math.max.code 2 (some .int) ∈ lw_tbl := kJ9_max_7cf53.1
theorem w_mmin : Cond.code Lib.Math.min.name Lib.Math.min.code 2 (some .int) ∈ lw_tbl := kJ9_min_7cf53.1
theorem w_mabs : Cond.code Lib.Math.abs.name Lib.Math.abs.code 1 (some .int) ∈ lw_tbl := kJ9_abs_0f7a4.1
section LIBR
variable {g : GG} {i : MI} {d nc ns : Nat} {res : Option RS} {P : PT} {pc : Nat} {ls : List (Option Value)} {st : List Value} {L : List Lay} {M : Mem}
theorem x_max (hP : IsW g i d nc ns res P) {idx : Nat} {x y : Int32} (hlk : Cond.methodLink i.1.cls idx yJ9_max_7cf53 ∈ lw_tbl) (hcat : (st.map fun v => v.category).sum ≤ 8) (hdd : 1 ≤ d) (hcap : L.length ≤ nc ∧ szL L ≤ ns) (hd : decode i.2.1 pc = .ok (.invokestatic idx, 3)) (k : P (pc + 3) ls (.int (if x < y then y else x) :: st) L M) : P pc ls (.int y :: .int x :: st) L M := by
  obtain ⟨p, l, e, R, s, m, args, below, meth, c, Q, n0, z0, rfl, hx, hb, hml, hown, hK, hR, hlks, hnm, hg0, hres⟩ := hP
  intro H locs lsA hW hloc hl hn hz
  have hcat2 : ((st.map (cv g)).map fun v => v.category).sum ≤ 8 := by rw [List.map_map]; simpa [Function.comp_def, cv_cat] using hcat
  exact va_mmax hx hb (hml.trans hl.1.symm) hown (hK.2.1.at (w := .methodLink i.1.cls idx Lib.Math.max.name) hlk rfl) (hK.2.1.at (w := .static Lib.Math.max.name) sJ9_max_7cf53 rfl) (hK.2.1.at zJ9 rfl) (hK.2.1.at w_mmax rfl) (by omega) (by omega) (by omega) (by omega) hd (k H locs lsA hW hloc hl hn hz)
theorem x_min (hP : IsW g i d nc ns res P) {idx : Nat} {x y : Int32} (hlk : Cond.methodLink i.1.cls idx yJ9_min_7cf53 ∈ lw_tbl) (hcat : (st.map fun v => v.category).sum ≤ 8) (hdd : 1 ≤ d) (hcap : L.length ≤ nc ∧ szL L ≤ ns) (hd : decode i.2.1 pc = .ok (.invokestatic idx, 3)) (k : P (pc + 3) ls (.int (if y < x then y else x) :: st) L M) : P pc ls (.int y :: .int x :: st) L M := by
  obtain ⟨p, l, e, R, s, m, args, below, meth, c, Q, n0, z0, rfl, hx, hb, hml, hown, hK, hR, hlks, hnm, hg0, hres⟩ := hP
  intro H locs lsA hW hloc hl hn hz
  have hcat2 : ((st.map (cv g)).map fun v => v.category).sum ≤ 8 := by rw [List.map_map]; simpa [Function.comp_def, cv_cat] using hcat
  exact va_mmin hx hb (hml.trans hl.1.symm) hown (hK.2.1.at (w := .methodLink i.1.cls idx Lib.Math.min.name) hlk rfl) (hK.2.1.at (w := .static Lib.Math.min.name) sJ9_min_7cf53 rfl) (hK.2.1.at zJ9 rfl) (hK.2.1.at w_mmin rfl) (by omega) (by omega) (by omega) (by omega) hd (k H locs lsA hW hloc hl hn hz)
theorem x_abs (hP : IsW g i d nc ns res P) {idx : Nat} {x : Int32} (hlk : Cond.methodLink i.1.cls idx yJ9_abs_0f7a4 ∈ lw_tbl) (hcat : (st.map fun v => v.category).sum ≤ 8) (hdd : 1 ≤ d) (hcap : L.length ≤ nc ∧ szL L ≤ ns) (hd : decode i.2.1 pc = .ok (.invokestatic idx, 3)) (k : P (pc + 3) ls (.int (if 0 ≤ x then x else 0 - x) :: st) L M) : P pc ls (.int x :: st) L M := by
  obtain ⟨p, l, e, R, s, m, args, below, meth, c, Q, n0, z0, rfl, hx, hb, hml, hown, hK, hR, hlks, hnm, hg0, hres⟩ := hP
  intro H locs lsA hW hloc hl hn hz
  have hcat2 : ((st.map (cv g)).map fun v => v.category).sum ≤ 8 := by rw [List.map_map]; simpa [Function.comp_def, cv_cat] using hcat
  exact va_mabs hx hb (hml.trans hl.1.symm) hown (hK.2.1.at (w := .methodLink i.1.cls idx Lib.Math.abs.name) hlk rfl) (hK.2.1.at (w := .static Lib.Math.abs.name) sJ9_abs_0f7a4 rfl) (hK.2.1.at zJ9 rfl) (hK.2.1.at w_mabs rfl) (by omega) (by omega) (by omega) (by omega) hd (k H locs lsA hW hloc hl hn hz)
def cpM (M : Mem) (a b sp dp n : Nat) : Mem := (fun q => if q = b then va_cpy (M.1 a) (M.1 b) sp dp n else M.1 q, M.2)
theorem cellE_cpM {g : GG} {M : Mem} {a b sp dp n : Nat} : ∀ j, j ≠ b → ∀ y, cellE g (cpM M a b sp dp n) j y = cellE g M j y := by
  intro j hj y
  have h1 : (cpM M a b sp dp n).1 j = M.1 j := if_neg hj
  have h2 : (cpM M a b sp dp n).2 = M.2 := rfl
  cases y with
  | inl q => simp only [cellE, arOf, h1, h2]
  | inr q => simp only [cellE, fsOf, fv, h1, h2]
theorem x_copy (hP : IsW g i d nc ns res P) {idx a b m0 m1 : Nat} {sp dp n : Int32} (hlk : Cond.methodLink i.1.cls idx arraycopyName ∈ lw_tbl) (ha : L[a]? = some (.inl (.int, m0))) (hb2 : L[b]? = some (.inl (.int, m1))) (h1 : ¬ sp < 0) (h2 : ¬ dp < 0) (h3 : ¬ n < 0) (h4 : sp.toNatClampNeg + n.toNatClampNeg ≤ m0) (h5 : dp.toNatClampNeg + n.toNatClampNeg ≤ m1) (hcat : (st.map fun v => v.category).sum ≤ 8) (hdd : 1 ≤ d) (hd : decode i.2.1 pc = .ok (.invokestatic idx, 3)) (k : P (pc + 3) ls st L (cpM M a b sp.toNatClampNeg dp.toNatClampNeg n.toNatClampNeg)) : P pc ls (.int n :: .int dp :: .ref b :: .int sp :: .ref a :: st) L M := by
  obtain ⟨p, l, e, R, s, m, args, below, meth, c, Q, n0, z0, rfl, hx, hb, hml, hown, hK, hR, hlks, hnm, hg0, hres⟩ := hP
  intro H locs lsA hW hloc hl hn hz
  have hcat2 : ((st.map (cv g)).map fun v => v.category).sum ≤ 8 := by rw [List.map_map]; simpa [Function.comp_def, cv_cat] using hcat
  have nn : ∀ z : Int32, ¬ z < 0 → z.toInt = (z.toNatClampNeg : Int) := by
    intro z hz
    have hz0 : (0 : Int) ≤ z.toInt := by
      have := Int32.not_lt.mp hz
      simpa using Int32.le_iff_toInt_le.mp this
    show z.toInt = ((z.toInt.toNat : Nat) : Int)
    omega
  have hc0 : H[gB g + a]? = some (vp_cell (g.2.1 .int) (m0, .inl (M.1 a))) := hW.2.2 a _ (ws_at ha)
  have hc1 : H[gB g + b]? = some (vp_cell (g.2.1 .int) (m1, .inl (M.1 b))) := hW.2.2 b _ (ws_at hb2)
  intro T hT X
  obtain ⟨-, k0, hk0, cm0, hkk0⟩ := (hK.1.2 0 _ rfl).1 m0 (fun j => .int (M.1 a j))
  obtain ⟨-, k1, hk1, cm1, hkk1⟩ := (hK.1.2 0 _ rfl).1 m1 (fun j => .int (M.1 b j))
  obtain ⟨vm', X', step⟩ := X.arraycopy hx hown (hK.2.1.at hlk rfl) (hK.2.1.at w_cn rfl) (hK.2.1.at w_cs rfl) (hK.2.1.at zJ10 rfl) (src := gB g + a) (dst := gB g + b) (cs := vp_cell (g.2.1 .int) (m0, .inl (M.1 a))) (cd := vp_cell (g.2.1 .int) (m1, .inl (M.1 b))) (srcPos := sp) (destPos := dp) (n := n) (by rw [hT]; exact hc0) (by rw [hT]; exact hc1)
    (fun _ h => by cases h) (fun _ h => by cases h) (fun h => by cases h) (fun h => by cases h) hk0 hk1 hkk0 hkk1 (by simp [refKind]) h1 h2 h3
    (by rw [nn sp h1, nn n h3]; show ¬ _ > ((arrV _ m0 (fun j => .int (M.1 a j))).slots.size : Int); rw [arrV_size]; omega)
    (by rw [nn dp h2, nn n h3]; show ¬ _ > ((arrV _ m1 (fun j => .int (M.1 b j))).slots.size : Int); rw [arrV_size]; omega)
    (fun vm₁ _ q hq => by
      have e : (vp_cell (g.2.1 .int) (m0, .inl (M.1 a))).slots.getD (sp.toNatClampNeg + q) .null = .int (M.1 a (sp.toNatClampNeg + q)) := by
        show (arrV _ m0 (fun j => .int (M.1 a j))).slots.getD _ _ = _
        rw [Array.getD_eq_getD_getElem?, arrV_read _ _ (by omega)]
        rfl
      refine ⟨?_, ?_⟩
      · rw [e]; rfl
      · rw [e]; exact trivial)
    (g := F0 m pc lsA (.int n :: .int dp :: .ref (gB g + b) :: .int sp :: .ref (gB g + a) :: st.map (cv g))) rfl (by rw [hml]; exact hl.1) (rest := st.map (cv g)) rfl (by rw [hb]; exact hd) (by omega) (by show 2 * 0 + _ + (5 + 2 + 11) ≤ _; omega)
  have e1 : copied (vp_cell (g.2.1 .int) (m0, .inl (M.1 a))) (vp_cell (g.2.1 .int) (m1, .inl (M.1 b))) sp dp n = vp_cell (g.2.1 .int) (m1, .inl (va_cpy (M.1 a) (M.1 b) sp.toNatClampNeg dp.toNatClampNeg n.toNatClampNeg)) := va_copied (fun z => .int z) _ _ (M.1 a) (M.1 b) h4
  rw [e1] at X' step
  have hlt : gB g + b < H.size := (Array.getElem?_eq_some_iff.mp hc1).1
  have hheap : ((T.setVm vm').setCell (gB g + b) (vp_cell (g.2.1 .int) (m1, .inl (va_cpy (M.1 a) (M.1 b) sp.toNatClampNeg dp.toNatClampNeg n.toNatClampNeg)))).heap = H.setIfInBounds (gB g + b) (vp_cell (g.2.1 .int) (m1, .inl (va_cpy (M.1 a) (M.1 b) sp.toNatClampNeg dp.toNatClampNeg n.toNatClampNeg))) := by rw [← hT]; rfl
  have oq : ∀ q : Nat, q ≠ gB g + b → (H.setIfInBounds (gB g + b) (vp_cell (g.2.1 .int) (m1, .inl (va_cpy (M.1 a) (M.1 b) sp.toNatClampNeg dp.toNatClampNeg n.toNatClampNeg))))[q]? = H[q]? := fun q hq => by simp [Array.getElem?_setIfInBounds, Ne.symm hq]
  have hat : va_at g.1 vwCl (gB g + b, cellE g (cpM M a b sp.toNatClampNeg dp.toNatClampNeg n.toNatClampNeg) b (.inl (.int, m1))) (H.setIfInBounds (gB g + b) (vp_cell (g.2.1 .int) (m1, .inl (va_cpy (M.1 a) (M.1 b) sp.toNatClampNeg dp.toNatClampNeg n.toNatClampNeg)))) := by
    show (H.setIfInBounds (gB g + b) _)[gB g + b]? = some (vp_cell (g.2.1 .int) (m1, .inl ((cpM M a b sp.toNatClampNeg dp.toNatClampNeg n.toNatClampNeg).1 b)))
    rw [show (cpM M a b sp.toNatClampNeg dp.toNatClampNeg n.toNatClampNeg).1 b = va_cpy (M.1 a) (M.1 b) sp.toNatClampNeg dp.toNatClampNeg n.toNatClampNeg from if_pos rfl]
    simp [Array.getElem?_setIfInBounds, hlt]
  obtain ⟨t, a1, b1⟩ := k _ _ lsA (hW.put hb2 hat (by simp) oq cellE_cpM) (fun q hq => by
    rcases List.mem_append.mp hq with h | h
    · exact hloc q h
    · obtain ⟨z, -, hz⟩ := List.mem_map.mp h
      rw [← hz]
      exact Nat.le_add_right _ _) hl hn hz _ hheap X'
  exact ⟨t, step t a1, b1⟩
end LIBR

-- 06.heap: rules of fields, arrays, making, returns and calls
theorem Wo.put {g : GG} {L : List Lay} {M M' : Mem} {H H1 : Heap} {id : Nat} {y : Lay} (hW : Wo g L M H) (hL : L[id]? = some y) (hat : va_at g.1 vwCl (gB g + id, cellE g M' id y) H1) (hs : H1.size = H.size) (oq : ∀ q : Nat, q ≠ gB g + id → H1[q]? = H[q]?) (ho : ∀ k, k ≠ id → ∀ y, cellE g M' k y = cellE g M k y) : Wo g L M' H1 := by
  refine ⟨hs.trans hW.1, fun q hq => (oq q (by omega)).trans (hW.2.1 q hq), fun k q hk => ?_⟩
  obtain ⟨z, hz, rfl⟩ := ws_inv hk
  by_cases e : k = id
  · subst e
    cases hL.symm.trans hz
    exact hat
  · rw [ho k e z]
    exact (hW.2.2 k _ (ws_at hz)).kept (oq _ (by show gB g + k ≠ _; omega))
theorem clOK {ci : Nat} {C : String} {T : u_T} {N : Nat} (h : vwCl[ci]? = some (C, T, N)) : N = clN ci ∧ (∀ w ∈ u_ws C T N, w ∈ lw_tbl) ∧ (∀ k, k < N → parseFieldDescriptor (T k).2.2.1 = some (clTy ci k)) ∧ (∀ a, a < N → ∀ b, b < N → a ≠ b → (T a).2.1 ≠ (T b).2.1) ∧ (∀ k, clF ci k = (T k).2.2.2) := by
  match ci, h with
  | 0, h => cases h; exact ⟨rfl, inX0, tyX0_ok, nmX0, fun _ => rfl⟩
  | 1, h => cases h; exact ⟨rfl, inX1, tyX1_ok, nmX1, fun _ => rfl⟩
  | 2, h => cases h; exact ⟨rfl, inX2, tyX2_ok, nmX2, fun _ => rfl⟩
  | 3, h => cases h; exact ⟨rfl, inX3, tyX3_ok, nmX3, fun _ => rfl⟩
  | 4, h => cases h; exact ⟨rfl, inX4, tyX4_ok, nmX4, fun _ => rfl⟩
  | 5, h => cases h; exact ⟨rfl, inX5, tyX5_ok, nmX5, fun _ => rfl⟩
  | 6, h => cases h; exact ⟨rfl, inX6, tyX6_ok, nmX6, fun _ => rfl⟩
  | 7, h => cases h; exact ⟨rfl, inX7, tyX7_ok, nmX7, fun _ => rfl⟩
  | 8, h => cases h; exact ⟨rfl, inX8, tyX8_ok, nmX8, fun _ => rfl⟩
  | 9, h => cases h; exact ⟨rfl, inX9, tyX9_ok, nmX9, fun _ => rfl⟩
  | 10, h => cases h; exact ⟨rfl, inX10, tyX10_ok, nmX10, fun _ => rfl⟩
  | 11, h => cases h; exact ⟨rfl, inX11, tyX11_ok, nmX11, fun _ => rfl⟩
  | 12, h => cases h; exact ⟨rfl, inX12, tyX12_ok, nmX12, fun _ => rfl⟩
  | n + 13, h => simp [vwCl] at h
theorem okW_lays {C : String} {T : u_T} {N : Nat} : ∀ w ∈ u_ws C T N, okW w = true := by
  intro w hw
  obtain ⟨k, -, rfl⟩ := List.mem_map.mp hw
  unfold u_lay
  split <;> rfl
theorem fsOf_at {g : GG} {M : Mem} {rf : List (Option Nat)} {id ci k : Nat} (hk : k < clN ci) : (fsOf g M rf id ci)[k]? = some (fv g M rf id k (clF ci k) (clTy ci k)) := by
  simp [fsOf, hk]
theorem fsOf_len {g : GG} {M : Mem} {rf : List (Option Nat)} {id ci : Nat} : (fsOf g M rf id ci).length = clN ci := by simp [fsOf]
theorem fsOf_set {g : GG} {M M' : Mem} {rf rf' : List (Option Nat)} {id ci k : Nat} {v : Value} (hv : fv g M' rf' id k (clF ci k) (clTy ci k) = v) (ho : ∀ j, j ≠ k → fv g M' rf' id j (clF ci j) (clTy ci j) = fv g M rf id j (clF ci j) (clTy ci j)) : (fsOf g M rf id ci).set k v = fsOf g M' rf' id ci := by
  apply List.ext_getElem?
  intro j
  by_cases hj : j < clN ci
  · by_cases e : j = k
    · subst e
      rw [List.getElem?_set_self (by rw [fsOf_len]; exact hj), fsOf_at hj, hv]
    · rw [List.getElem?_set_ne (Ne.symm e), fsOf_at hj, fsOf_at hj, ho j e]
  · rw [List.getElem?_eq_none (by rw [List.length_set, fsOf_len]; omega), List.getElem?_eq_none (by rw [fsOf_len]; omega)]
section HEAPR
variable {g : GG} {i : MI} {d nc ns : Nat} {res : Option RS} {P : PT} {pc : Nat} {ls : List (Option Value)} {st : List Value} {L : List Lay} {M : Mem}
theorem x_getf (hP : IsW g i d nc ns res P) {idx ci k id : Nat} {ty : FieldType} {fin : Bool} {rf : List (Option Nat)} {v : Value} (hf : fOK i.1.cls idx ci k ty fin) (hL : L[id]? = some (.inr (ci, rf))) (hv : fv g M rf id k fin ty = cv g v) (hd : decode i.2.1 pc = .ok (.getfield idx, 3)) (kk : P (pc + 3) ls (v :: st) L M) : P pc ls (.ref id :: st) L M := by
  obtain ⟨p, l, e, R, s, m, args, below, meth, c, Q, n0, z0, rfl, hx, hb, hml, hown, hK, hR, hlk, hnm, hg0, hres⟩ := hP
  intro H locs lsA hW hloc hl hn hz
  obtain ⟨C, T, N, hc, hk, hlink, hfin, hty, hdecl⟩ := hf
  obtain ⟨hN, hin, hty0, hnm0, hF⟩ := clOK hc
  refine va_get hx hb (Ts := u_ws C T N) (fun w hw => hK.2.1.at (hin w hw) (okW_lays w hw)) (fun _ h => h) hown hK.1 hW.2.2 id (ws_at hL) hc k hk (hK.2.1.at hlink rfl) (fun _ h => h) (v := cv g v) ?_ hd (kk H locs lsA hW hloc hl hn hz)
  show (fsOf g M rf id ci)[k]? = some (cv g v)
  rw [fsOf_at (by omega), hF, hfin, hty, hv]
theorem x_getI (hP : IsW g i d nc ns res P) {idx ci k id : Nat} {fin : Bool} {rf : List (Option Nat)} (hf : fOK i.1.cls idx ci k .int fin) (hL : L[id]? = some (.inr (ci, rf))) (hd : decode i.2.1 pc = .ok (.getfield idx, 3)) (kk : P (pc + 3) ls (.int (M.1 id k) :: st) L M) : P pc ls (.ref id :: st) L M := x_getf hP hf hL rfl hd kk
theorem x_getZ (hP : IsW g i d nc ns res P) {idx ci k id : Nat} {fin : Bool} {rf : List (Option Nat)} (hf : fOK i.1.cls idx ci k .boolean fin) (hL : L[id]? = some (.inr (ci, rf))) (hd : decode i.2.1 pc = .ok (.getfield idx, 3)) (kk : P (pc + 3) ls (.int (M.1 id k) :: st) L M) : P pc ls (.ref id :: st) L M := x_getf hP hf hL rfl hd kk
theorem x_getA (hP : IsW g i d nc ns res P) {idx ci k id r : Nat} {ty : FieldType} {rf : List (Option Nat)} (hf : fOK i.1.cls idx ci k (.array ty) true) (hL : L[id]? = some (.inr (ci, rf))) (hr : rf.getD k none = some r) (hd : decode i.2.1 pc = .ok (.getfield idx, 3)) (kk : P (pc + 3) ls (.ref r :: st) L M) : P pc ls (.ref id :: st) L M := x_getf hP hf hL (by simp only [fv, if_true, hr]; rfl) hd kk
theorem x_getO (hP : IsW g i d nc ns res P) {idx ci k id r : Nat} {C : String} {rf : List (Option Nat)} (hf : fOK i.1.cls idx ci k (.object C) true) (hL : L[id]? = some (.inr (ci, rf))) (hr : rf.getD k none = some r) (hd : decode i.2.1 pc = .ok (.getfield idx, 3)) (kk : P (pc + 3) ls (.ref r :: st) L M) : P pc ls (.ref id :: st) L M := x_getf hP hf hL (by simp only [fv, if_true, hr]; rfl) hd kk
theorem x_getM (hP : IsW g i d nc ns res P) {idx ci k id r : Nat} {C : String} {rf : List (Option Nat)} (hf : fOK i.1.cls idx ci k (.object C) false) (hL : L[id]? = some (.inr (ci, rf))) (hr : M.2.2 id k = some r) (hd : decode i.2.1 pc = .ok (.getfield idx, 3)) (kk : P (pc + 3) ls (.ref r :: st) L M) : P pc ls (.ref id :: st) L M := x_getf hP hf hL (by simp only [fv, Bool.false_eq_true, if_false, hr]; rfl) hd kk
theorem x_putf (hP : IsW g i d nc ns res P) {idx ci k id : Nat} {ty : FieldType} {rf : List (Option Nat)} {v : Value} {M' : Mem} (hf : fOK i.1.cls idx ci k ty false) (hL : L[id]? = some (.inr (ci, rf))) (hnw : narrow ty (cv g v) = cv g v) (hft : fits ty (cv g v) = true) (ho : ∀ k, k ≠ id → ∀ y, cellE g M' k y = cellE g M k y) (hv : fv g M' rf id k false ty = cv g v) (ho2 : ∀ j, j ≠ k → fv g M' rf id j (clF ci j) (clTy ci j) = fv g M rf id j (clF ci j) (clTy ci j)) (hd : decode i.2.1 pc = .ok (.putfield idx, 3)) (kk : P (pc + 3) ls st L M') : P pc ls (v :: .ref id :: st) L M := by
  obtain ⟨p, l, e, R, s, m, args, below, meth, c, Q, n0, z0, rfl, hx, hb, hml, hown, hK, hR, hlk, hnm, hg0, hres⟩ := hP
  intro H locs lsA hW hloc hl hn hz
  obtain ⟨C, T, N, hc, hk, hlink, hfin, hty, hdecl⟩ := hf
  obtain ⟨hN, hin, hty0, hnm0, hF⟩ := clOK hc
  have hts : ∀ w ∈ u_ws C T N, w.before args s = true := fun w hw => hK.2.1.at (hin w hw) (okW_lays w hw)
  have hap := va_apart (own := i.1.cls) hts (fun _ h => h) (clTy ci) hty0 hnm0 hK.1 hc
  obtain ⟨r, h1, cell, q1, q2, q3, q4⟩ := hW.2.2 id _ (ws_at hL)
  have hr : r = (C, T, N) := Option.some.inj (h1.symm.trans hc)
  subst hr
  obtain ⟨hS, hfc, kC, hkC, hkind⟩ := hK.1.1 ci _ hc
  obtain ⟨cf, kf, fi, f, hi, hsl⟩ := hS k hk
  have hlay := hts _ (u_in_lay hk)
  unfold u_lay at hlay
  rw [if_neg (by rw [hfin]; decide)] at hlay
  have hst := (u_facts hfc hkC (u_lays hts (fun _ h => h) hk) hi).1
  have h6 := u_store hfc hkC hkind hlay hi (hty0 k hk) (by rw [hty]; exact hnw) (by rw [hty]; exact hft)
  refine W.putK hx hb (f := f) ⟨hown, hK.2.1.at hlink rfl, ⟨_, _, _, hi⟩, hst⟩ (by rw [q2]; exact h6) q1 q3 (by rw [hsl]; exact k2_hasslot (q4 k hk)) rfl rfl hd fun H' e1 e2 e3 => ?_
  rw [hsl] at e1 ⊢
  have hat : va_at g.1 vwCl (gB g + id, cellE g M' id (.inr (ci, rf))) H' := by
    show va_at g.1 vwCl (gB g + id, .inr (ci, fsOf g M' rf id ci)) H'
    rw [← fsOf_set (M := M) (M' := M') (rf := rf) (rf' := rf) (k := k) (v := cv g v) (by rw [hF, hfin, hty]; exact hv) ho2]
    exact ⟨_, hc, t_OB.to (V := updV (vp_V (fsOf g M rf id ci)) k (cv g v)) ⟨_, e1, q2, q3, t_set q4 hap hk (cv g v)⟩ (fun j _ => vp_updV_set (by rw [fsOf_len]; omega) (cv g v) j)⟩
  refine kk H' _ lsA (hW.put hL hat e2 e3 ho) (fun q hq => ?_) hl hn hz
  rcases List.mem_append.mp hq with h | h
  · exact hloc q h
  · rw [List.mem_singleton.mp h]; exact Nat.le_add_right _ _
theorem cellE_sI {g : GG} {M : Mem} {id k : Nat} {x : Int32} : ∀ j, j ≠ id → ∀ y, cellE g (sI M id k x) j y = cellE g M j y := by
  intro j hj y
  have h1 : (sI M id k x).1 j = M.1 j := if_neg hj
  have h2 : (sI M id k x).2 = M.2 := rfl
  cases y with
  | inl q => simp only [cellE, arOf, h1, h2]
  | inr q => simp only [cellE, fsOf, fv, h1, h2]
theorem cellE_sJ {g : GG} {M : Mem} {id k : Nat} {x : Int64} : ∀ j, j ≠ id → ∀ y, cellE g (sJ M id k x) j y = cellE g M j y := by
  intro j hj y
  have h1 : (sJ M id k x).1 = M.1 := rfl
  have h2 : (sJ M id k x).2.1 j = M.2.1 j := if_neg hj
  have h3 : (sJ M id k x).2.2 = M.2.2 := rfl
  cases y with
  | inl q => simp only [cellE, arOf, h1, h2]
  | inr q => simp only [cellE, fsOf, fv, h1, h2, h3]
theorem cellE_sR {g : GG} {M : Mem} {id k : Nat} {x : Option Nat} : ∀ j, j ≠ id → ∀ y, cellE g (sR M id k x) j y = cellE g M j y := by
  intro j hj y
  have h1 : (sR M id k x).1 = M.1 := rfl
  have h2 : (sR M id k x).2.1 = M.2.1 := rfl
  have h3 : (sR M id k x).2.2 j = M.2.2 j := if_neg hj
  cases y with
  | inl q => simp only [cellE, arOf, h1, h2]
  | inr q => simp only [cellE, fsOf, fv, h1, h2, h3]
theorem sI_in {M : Mem} {id k : Nat} {x : Int32} : (sI M id k x).1 id = upd (M.1 id) k x := if_pos rfl
theorem fv_sI {g : GG} {M : Mem} {rf : List (Option Nat)} {id k : Nat} {x : Int32} {j : Nat} (hj : j ≠ k) {fin : Bool} {ty : FieldType} : fv g (sI M id k x) rf id j fin ty = fv g M rf id j fin ty := by
  have h1 : (sI M id k x).1 id j = M.1 id j := by rw [sI_in]; exact if_neg hj
  have h2 : (sI M id k x).2 = M.2 := rfl
  simp only [fv, h1, h2]
theorem fv_sR {g : GG} {M : Mem} {rf : List (Option Nat)} {id k : Nat} {x : Option Nat} {j : Nat} (hj : j ≠ k) {fin : Bool} {ty : FieldType} : fv g (sR M id k x) rf id j fin ty = fv g M rf id j fin ty := by
  have h1 : (sR M id k x).1 = M.1 := rfl
  have h2 : (sR M id k x).2.1 = M.2.1 := rfl
  have h3 : (sR M id k x).2.2 id j = M.2.2 id j := by simp [sR, hj]
  simp only [fv, h1, h2, h3]
theorem x_putI (hP : IsW g i d nc ns res P) {idx ci k id : Nat} {rf : List (Option Nat)} {x : Int32} (hf : fOK i.1.cls idx ci k .int false) (hL : L[id]? = some (.inr (ci, rf))) (hd : decode i.2.1 pc = .ok (.putfield idx, 3)) (kk : P (pc + 3) ls st L (sI M id k x)) : P pc ls (.int x :: .ref id :: st) L M :=
  x_putf (v := .int x) hP hf hL rfl rfl cellE_sI (by simp [fv, sI_in, upd, cv]) (fun j hj => fv_sI hj) hd kk
theorem x_putZ (hP : IsW g i d nc ns res P) {idx ci k id : Nat} {rf : List (Option Nat)} {x : Int32} (hf : fOK i.1.cls idx ci k .boolean false) (hx : x = 0 ∨ x = 1) (hL : L[id]? = some (.inr (ci, rf))) (hd : decode i.2.1 pc = .ok (.putfield idx, 3)) (kk : P (pc + 3) ls st L (sI M id k x)) : P pc ls (.int x :: .ref id :: st) L M :=
  x_putf (v := .int x) hP hf hL (by rcases hx with rfl | rfl <;> rfl) (by rcases hx with rfl | rfl <;> rfl) cellE_sI (by simp [fv, sI_in, upd, cv]) (fun j hj => fv_sI hj) hd kk
theorem x_putM (hP : IsW g i d nc ns res P) {idx ci k id r : Nat} {C : String} {rf : List (Option Nat)} (hf : fOK i.1.cls idx ci k (.object C) false) (hL : L[id]? = some (.inr (ci, rf))) (hd : decode i.2.1 pc = .ok (.putfield idx, 3)) (kk : P (pc + 3) ls st L (sR M id k (some r))) : P pc ls (.ref r :: .ref id :: st) L M :=
  x_putf (v := .ref r) hP hf hL rfl rfl cellE_sR (by simp [fv, sR, cv, rv]) (fun j hj => fv_sR hj) hd kk
end HEAPR

-- 08.make: making objects and arrays, constructors' calls, static calls, the library's own
def nM (M : Mem) (id : Nat) : Mem := (fun a => if a = id then fun _ => 0 else M.1 a, fun a => if a = id then fun _ => 0 else M.2.1 a, fun a => if a = id then fun _ => none else M.2.2 a)
theorem cellE_nM {g : GG} {M : Mem} {id : Nat} : ∀ j, j ≠ id → ∀ y, cellE g (nM M id) j y = cellE g M j y := by
  intro j hj y
  have h1 : (nM M id).1 j = M.1 j := if_neg hj
  have h2 : (nM M id).2.1 j = M.2.1 j := if_neg hj
  have h3 : (nM M id).2.2 j = M.2.2 j := if_neg hj
  cases y with
  | inl q => simp only [cellE, arOf, h1, h2]
  | inr q => simp only [cellE, fsOf, fv, h1, h2, h3]
theorem ws_app {g : GG} {L : List Lay} {M : Mem} {y : Lay} {k : Nat} {q : Nat × va_E} (h : (wsOf g (L ++ [y]) M)[k]? = some q) : (∃ z, L[k]? = some z ∧ q = (gB g + k, cellE g M k z)) ∨ (k = L.length ∧ q = (gB g + k, cellE g M k y)) := by
  obtain ⟨z, hz, rfl⟩ := ws_inv h
  by_cases hk : k < L.length
  · rw [List.getElem?_append_left hk] at hz
    exact Or.inl ⟨z, hz, rfl⟩
  · have hlt := (List.getElem?_eq_some_iff.mp hz).1
    have hk2 : k = L.length := by simp at hlt; omega
    subst hk2
    simp at hz
    subst hz
    exact Or.inr ⟨rfl, rfl⟩
theorem Wo.push {g : GG} {L : List Lay} {M : Mem} {H H1 : Heap} {y : Lay} (hW : Wo g L M H) (hs : H1.size = H.size + 1) (oq : ∀ q : Nat, q < H.size → H1[q]? = H[q]?) (hat : va_at g.1 vwCl (gB g + L.length, cellE g (nM M L.length) L.length y) H1) : Wo g (L ++ [y]) (nM M L.length) H1 := by
  have hW1 := hW.1
  refine ⟨by rw [hs, hW1, List.length_append]; simp; omega, fun q hq => (oq q (by omega)).trans (hW.2.1 q hq), fun k q hk => ?_⟩
  rcases ws_app hk with ⟨z, hz, rfl⟩ | ⟨rfl, rfl⟩
  · have hlt := (List.getElem?_eq_some_iff.mp hz).1
    rw [cellE_nM k (by omega)]
    exact (hW.2.2 k _ (ws_at hz)).kept (oq _ (by show gB g + k < _; omega))
  · exact hat
theorem szL_app (L : List Lay) (y : Lay) : szL (L ++ [y]) = szL L + szY y := by simp [szL]
def okTy (ty : FieldType) : Bool := match ty with
  | .float => false
  | .double => false
  | _ => true
theorem clTy_ok : ∀ ci, ci < 13 → ∀ k, k < clN ci → okTy (clTy ci k) = true := by decide +kernel
theorem vwCl_lt {ci : Nat} {q : vw_C} (h : vwCl[ci]? = some q) : ci < 13 := (List.getElem?_eq_some_iff.mp h).1
section MAKER
variable {g : GG} {i : MI} {d nc ns : Nat} {res : Option RS} {P : PT} {pc : Nat} {ls : List (Option Value)} {st : List Value} {L : List Lay} {M : Mem}
theorem x_new (hP : IsW g i d nc ns res P) {idx ci N : Nat} {C : String} {T : u_T} (hc : vwCl[ci]? = some (C, T, N)) (hcl : Cond.classLink i.1.cls idx C ∈ lw_tbl) (hin : Cond.instantiable C N ∈ lw_tbl) (hini : Cond.initialized C ∈ lw_tbl) (hcap : L.length + 1 ≤ nc ∧ szL L + N ≤ ns) (hd : decode i.2.1 pc = .ok (.new idx, 3)) (k : P (pc + 3) ls (.ref L.length :: st) (L ++ [.inr (ci, List.replicate N none)]) (nM M L.length)) : P pc ls st L M := by
  obtain ⟨p, l, e, R, s, m, args, below, meth, c, Q, n0, z0, rfl, hx, hb, hml, hown, hK, hR, hlk, hnm, hg0, hres⟩ := hP
  intro H locs lsA hW hloc hl hn hz
  obtain ⟨hN, hin2, hty0, hnm0, hF⟩ := clOK hc
  have hKn := hK.1.1 ci _ hc
  have hts : ∀ w ∈ u_ws C T N, w.before args s = true := fun w hw => hK.2.1.at (hin2 w hw) (okW_lays w hw)
  have hW1 := hW.1
  have hez : szL (L ++ [.inr (ci, List.replicate N none)]) = szL L + N := by rw [szL_app]; show _ + clN ci = _; omega
  have hel : (L ++ [Sum.inr (ci, List.replicate N none)] : List Lay).length = L.length + 1 := by simp
  refine W.newcK hx hb hown (hK.2.1.at hcl rfl) (hK.2.1.at hin rfl) (hK.2.1.at hini rfl) rfl hd (by omega) (by omega) hKn.2.1 rfl fun H1 kC hkC e1 z1 o1 => ?_
  have hat : va_at g.1 vwCl (gB g + L.length, cellE g (nM M L.length) L.length (.inr (ci, List.replicate N none))) H1 := by
    rw [hW1] at e1
    refine ⟨_, hc, (u_born (clTy ci) hts (fun _ h => h) hKn hkC e1 hty0).to fun j hj => ?_⟩
    show defaultValue (clTy ci j) = vp_V (fsOf g (nM M L.length) (List.replicate N none) L.length ci) j
    have hj2 : j < clN ci := by omega
    have hv : vp_V (fsOf g (nM M L.length) (List.replicate N none) L.length ci) j = fv g (nM M L.length) (List.replicate N none) L.length j (clF ci j) (clTy ci j) := by
      simp [vp_V, List.getD, fsOf_at hj2]
    rw [hv]
    have ok := clTy_ok ci (vwCl_lt hc) j hj2
    have a1 : (nM M L.length).1 L.length j = 0 := by simp [nM]
    have a2 : (nM M L.length).2.1 L.length j = 0 := by simp [nM]
    have a3 : (if clF ci j then (List.replicate N (none : Option Nat)).getD j none else (nM M L.length).2.2 L.length j) = none := by
      split
      · rw [List.getD_eq_getElem?_getD, List.getElem?_replicate]; split <;> rfl
      · simp [nM]
    generalize clTy ci j = ty at ok ⊢
    cases ty <;> simp_all [fv, defaultValue, okTy, rv]
  have h2 := k H1 locs lsA (hW.push (by omega) (fun q hq => o1 q (by omega)) hat) hloc hl (by omega) (by omega)
  rw [hez, hel, show L.length + 1 - n0 = L.length - n0 + 1 by omega, show szL L + N - z0 = szL L - z0 + N by omega] at h2
  rw [hW1]
  exact h2
theorem ac_of {g : GG} {s : State} (hK : KK g s) {ty : FieldType} {t0 : Nat} (h : (gT g)[t0]? = some (g.2.1 ty, ty)) (hp : ty = .int ∨ ty = .long ∨ ty = .byte ∨ ty = .boolean) : s.vm.findClass ("[" ++ ty.toString) = some (g.2.1 ty) := by
  have h1 := (hK.1.2 t0 _ h).2
  rcases hp with rfl | rfl | rfl | rfl <;> exact h1
theorem x_newa (hP : IsW g i d nc ns res P) {atype : ArrayType} {ty : FieldType} {n : Int32} {N t0 : Nat} (hty : newarray.typeOf atype = ty) (ht : (gT g)[t0]? = some (g.2.1 ty, ty)) (hp : ty = .int ∨ ty = .long ∨ ty = .byte ∨ ty = .boolean) (hac : Cond.arrayClass ty ∈ lw_tbl) (hn0 : ¬ n < 0) (hN : n.toNatClampNeg = N) (hbig : N ≤ 10000) (hcap : L.length + 1 ≤ nc ∧ szL L + N ≤ ns) (hd : decode i.2.1 pc = .ok (.newarray atype, 2)) (k : P (pc + 2) ls (.ref L.length :: st) (L ++ [.inl (ty, N)]) (nM M L.length)) : P pc ls (.int n :: st) L M := by
  obtain ⟨p, l, e, R, s, m, args, below, meth, c, Q, n0, z0, rfl, hx, hb, hml, hown, hK, hR, hlk, hnm, hg0, hres⟩ := hP
  intro H locs lsA hW hloc hl hn hz
  subst hty
  have hW1 := hW.1
  have hez : szL (L ++ [.inl (newarray.typeOf atype, N)]) = szL L + N := by rw [szL_app]; rfl
  have hel : (L ++ [Sum.inl (newarray.typeOf atype, N)] : List Lay).length = L.length + 1 := by simp
  refine va_newaK hx hb (hK.2.1.at hac rfl) rfl hd rfl hn0 hN ?_ (by omega) (by omega) rfl fun H1 cA e1 z1 o1 hAr hNm => ?_
  · rcases hp with h | h | h | h <;> rw [h] <;> simp only [componentBytes] <;> omega
  have hcA : cA = g.2.1 (newarray.typeOf atype) := Option.some.inj (hNm.symm.trans (ac_of hK ht hp))
  subst hcA
  have hat : va_at g.1 vwCl (gB g + L.length, cellE g (nM M L.length) L.length (.inl (newarray.typeOf atype, N))) H1 := by
    rw [hW1] at e1
    have a1 : (nM M L.length).1 L.length = fun _ => 0 := if_pos rfl
    have a2 : (nM M L.length).2.1 L.length = fun _ => 0 := if_pos rfl
    show H1[gB g + L.length]? = some (vp_cell (g.2.1 (newarray.typeOf atype)) (arOf (nM M L.length) L.length (newarray.typeOf atype) N))
    rw [e1]
    generalize newarray.typeOf atype = ty at hp ⊢
    rcases hp with rfl | rfl | rfl | rfl
    · simp only [arOf, a1]; rfl
    · simp only [arOf, a2]; rfl
    · simp only [arOf, a1]; rfl
    · simp only [arOf, a1]; rfl
  have h2 := k H1 locs lsA (hW.push (by omega) (fun q hq => o1 q (by omega)) hat) hloc hl (by omega) (by omega)
  rw [hez, hel, show L.length + 1 - n0 = L.length - n0 + 1 by omega, show szL L + N - z0 = szL L - z0 + N by omega] at h2
  rw [hW1]
  exact h2
theorem x_objInit (hP : IsW g i d nc ns res P) {idx a : Nat} (hlk : Cond.methodLink i.1.cls idx objectInit ∈ lw_tbl) (hcat : (st.map fun v => v.category).sum ≤ 8) (hdd : 1 ≤ d) (hd : decode i.2.1 pc = .ok (.invokespecial idx, 3)) (k : P (pc + 3) ls st L M) : P pc ls (.ref a :: st) L M := by
  obtain ⟨p, l, e, R, s, m, args, below, meth, c, Q, n0, z0, rfl, hx, hb, hml, hown, hK, hR, hlks, hnm, hg0, hres⟩ := hP
  intro H locs lsA hW hloc hl hn hz
  have hcat2 : ((st.map (cv g)).map fun v => v.category).sum ≤ 8 := by rw [List.map_map]; simpa [Function.comp_def, cv_cat] using hcat
  exact W.objInit hx hb hown (hK.2.1.at hlk rfl) (hK.2.1.at w_oi rfl) (hK.2.1.at w_oc rfl) rfl (hl.1.trans hml.symm) rfl hd (by omega) (by show 2 * 0 + _ + 12 ≤ _; omega) (k H locs lsA hW hloc hl hn hz)
theorem Wo.lay {g : GG} {L : List Lay} {M : Mem} {H H1 : Heap} {id : Nat} {y y' : Lay} (hW : Wo g L M H) (hL : L[id]? = some y) (hat : va_at g.1 vwCl (gB g + id, cellE g M id y') H1) (hs : H1.size = H.size) (oq : ∀ q : Nat, q ≠ gB g + id → H1[q]? = H[q]?) : Wo g (L.set id y') M H1 := by
  refine ⟨by rw [List.length_set]; exact hs.trans hW.1, fun q hq => (oq q (by omega)).trans (hW.2.1 q hq), fun k q hk => ?_⟩
  obtain ⟨z, hz, rfl⟩ := ws_inv hk
  by_cases e : k = id
  · subst e
    rw [List.getElem?_set_self (List.getElem?_eq_some_iff.mp hL).1] at hz
    cases hz
    exact hat
  · rw [List.getElem?_set_ne (Ne.symm e)] at hz
    exact (hW.2.2 k _ (ws_at hz)).kept (oq _ (by show gB g + k ≠ _; omega))
theorem szL_set {L : List Lay} {id : Nat} {y y' : Lay} (hL : L[id]? = some y) (h : szY y' = szY y) : szL (L.set id y') = szL L := by
  unfold szL
  rw [List.map_set, h]
  congr 1
  apply List.ext_getElem?
  intro k
  by_cases e : k = id
  · subst e
    rw [List.getElem?_set_self (by rw [List.length_map]; exact (List.getElem?_eq_some_iff.mp hL).1), List.getElem?_map, hL]; rfl
  · rw [List.getElem?_set_ne (Ne.symm e)]
theorem fv_rf {g : GG} {M : Mem} {rf : List (Option Nat)} {id k j : Nat} {o : Option Nat} (hj : j ≠ k) {fin : Bool} {ty : FieldType} : fv g M (rf.set k o) id j fin ty = fv g M rf id j fin ty := by
  have h : (rf.set k o).getD j none = rf.getD j none := by
    rw [List.getD_eq_getElem?_getD, List.getD_eq_getElem?_getD, List.getElem?_set_ne (Ne.symm hj)]
  cases ty <;> simp only [fv, h]
/-- a constructor puts a final reference -/
theorem x_putF (hP : IsW g i d nc ns res P) {idx ci k id r : Nat} {ty : FieldType} {rf : List (Option Nat)} (hf : fOK i.1.cls idx ci k ty true) (hty2 : (∃ C, ty = .object C) ∨ ∃ t, ty = .array t) (hnmi : i.1.name = "<init>") (hci : (vwCl[ci]?).map (fun q => q.1) = some i.1.cls) (hL : L[id]? = some (.inr (ci, rf))) (hlen : k < rf.length) (hd : decode i.2.1 pc = .ok (.putfield idx, 3)) (kk : P (pc + 3) ls st (L.set id (.inr (ci, rf.set k (some r)))) M) : P pc ls (.ref r :: .ref id :: st) L M := by
  obtain ⟨p, l, e, R, s, m, args, below, meth, c, Q, n0, z0, rfl, hx, hb, hml, hown, hK, hR, hlk, hnm, hg0, hres⟩ := hP
  intro H locs lsA hW hloc hl hn hz
  obtain ⟨C, T, N, hc, hk, hlink, hfin, hty, hdecl⟩ := hf
  obtain ⟨hN, hin, hty0, hnm0, hF⟩ := clOK hc
  have hts : ∀ w ∈ u_ws C T N, w.before args s = true := fun w hw => hK.2.1.at (hin w hw) (okW_lays w hw)
  have hap := va_apart (own := i.1.cls) hts (fun _ h => h) (clTy ci) hty0 hnm0 hK.1 hc
  obtain ⟨q, h1, cell, q1, q2, q3, q4⟩ := hW.2.2 id _ (ws_at hL)
  have hr : q = (C, T, N) := Option.some.inj (h1.symm.trans hc)
  subst hr
  have hCi : C = i.1.cls := by rw [hc] at hci; exact Option.some.inj hci
  obtain ⟨hS, hfc, kC, hkC, hkind⟩ := hK.1.1 ci _ hc
  obtain ⟨cf, kf, fi, f, hi, hsl⟩ := hS k hk
  have hlay := hts _ (u_in_lay hk)
  unfold u_lay at hlay
  rw [if_pos hfin] at hlay
  have hst := (u_facts hfc hkC (u_lays hts (fun _ h => h) hk) hi).1
  have hcf : m.cls = cf := by
    obtain ⟨_, _, c', _, _, _, -, -, hf', -, -, -, hown2, -⟩ := Cond.laysFinal_spec hlay
    have e1 : c' = cf := by have := hi.symm.trans hf'; simp at this; exact this.1.symm
    rw [hdecl, hCi] at hown2
    rw [← e1]; exact Option.some.inj (hown.symm.trans hown2)
  have hnf : narrow ty (Value.ref (gB g + r)) = Value.ref (gB g + r) ∧ fits ty (Value.ref (gB g + r)) = true := by
    rcases hty2 with ⟨C2, rfl⟩ | ⟨t2, rfl⟩ <;> exact ⟨rfl, rfl⟩
  have h6 := u_fits hfc hkC hkind (Or.inr hlay) hi (hty0 k hk) (by rw [hty]; exact hnf.1) (by rw [hty]; exact hnf.2)
  refine W.putFinK hx hb hown (hK.2.1.at hlink rfl) hi hst hcf (hnm hnmi) (by rw [q2]; exact h6) q1 q3 (by rw [hsl]; exact k2_hasslot (q4 k hk)) rfl rfl hd fun H' e1 e2 e3 => ?_
  rw [hsl] at e1 ⊢
  have hat : va_at g.1 vwCl (gB g + id, cellE g M id (.inr (ci, rf.set k (some r)))) H' := by
    show va_at g.1 vwCl (gB g + id, .inr (ci, fsOf g M (rf.set k (some r)) id ci)) H'
    rw [← fsOf_set (M := M) (M' := M) (rf := rf) (rf' := rf.set k (some r)) (k := k) (v := .ref (gB g + r)) (by
      have hg : (rf.set k (some r)).getD k none = some r := by rw [List.getD_eq_getElem?_getD, List.getElem?_set_self hlen]; rfl
      rw [hF, hfin, hty]
      rcases hty2 with ⟨C2, rfl⟩ | ⟨t2, rfl⟩ <;> simp only [fv, if_true, hg] <;> rfl) (fun j hj => fv_rf hj)]
    exact ⟨_, hc, t_OB.to (V := updV (vp_V (fsOf g M rf id ci)) k (.ref (gB g + r))) ⟨_, e1, q2, q3, t_set q4 hap hk (.ref (gB g + r))⟩ (fun j _ => vp_updV_set (by rw [fsOf_len]; omega) (.ref (gB g + r)) j)⟩
  have hsz : szL (L.set id (.inr (ci, rf.set k (some r)))) = szL L := szL_set hL rfl
  have hle : (L.set id (.inr (ci, rf.set k (some r)))).length = L.length := List.length_set
  have h2 := kk H' (locs ++ [⟨gB g + id, g.1.2 ci k⟩]) lsA (hW.lay hL hat e2 e3) (fun q hq => by
    rcases List.mem_append.mp hq with h | h
    · exact hloc q h
    · rw [List.mem_singleton.mp h]; exact Nat.le_add_right _ _) hl (by omega) (by omega)
  rw [hsz, hle] at h2
  exact h2
theorem x_callS (hP : IsW g i d nc ns res P) {j : MI} {idx d2 : Nat} {stk : List Value} {r : Option Value} {L1 : List Lay} {M1 : Mem} (hm : mIK j) (hi : Cond.static j.1 ∈ lw_tbl) (hlk : Cond.methodLink i.1.cls idx j.1 ∈ lw_tbl) (as : List Value) (hna : as.length = j.2.2.2.2) (hst : stk = as.reverse ++ st) (hcat : (st.map fun v => v.category).sum ≤ 8)
    (hd : decode i.2.1 pc = .ok (.invokestatic idx, 3)) (hE : ExM g d2 j as L M (r, L1, M1)) (hdd : d2 + 1 ≤ d) (hcap : L1.length ≤ nc ∧ szL L1 ≤ ns) (k : P (pc + 3) ls (r.toList ++ st) L1 M1) : P pc ls stk L M := by
  obtain ⟨p, l, e, R, s, m, args, below, meth, c, Q, n0, z0, rfl, hx, hb, hml, hown, hK, hR, hlks, hnm, hg0, hres⟩ := hP
  intro H locs lsA hW hloc hl hn hz
  obtain ⟨hE1, hE2, hE3⟩ := hE
  have hE1 : L.length ≤ L1.length := hE1
  have hE2 : szL L ≤ szL L1 := hE2
  obtain ⟨hm1, hm2, hm3, hm4⟩ := id hm
  have hss : (as.map (cv g)).reverse ++ st.map (cv g) = stk.map (cv g) := by
    rw [hst, List.map_append, List.map_reverse]
  have hcat2 : ((st.map (cv g)).map fun v => v.category).sum ≤ 8 := by rw [List.map_map]; simpa [Function.comp_def, cv_cat] using hcat
  refine x_run (g := g) (r := r) (L1 := L1) (M1 := M1) (a := (as.map (cv g) : List Value).toArray) (va_runS (n := j.2.2.2.2) (As := as.map (cv g)) (rest := st.map (cv g)) (Ts := []) ⟨hx, hb, hml, hown, fun w hw => absurd hw List.not_mem_nil⟩ (hE3 l)
    ⟨⟨rfl, rfl, by show d2 + 1 ≤ _; omega, by show 8 + (j.2.2.1 + 11) + 30 * d2 ≤ _; omega, fun w hw a' U hWU => ?_, List.mem_singleton.mpr rfl, hK.2.1.at hm1 rfl, hK.2.1.at hm2 rfl, ⟨hm3.1, hm3.2.1⟩, ?_, hK.2.1.at hlk rfl⟩, hK.2.1.at hi rfl⟩
    ⟨Pq_blind, fun U hU hWU => ⟨rfl, by rw [hU]; exact hW, hK.warm hWU⟩⟩ rfl (by rw [List.length_map]; exact hna) hl.1 (hss.symm) (lv_room hcat2) hd ⟨by show L.length - n0 + (L1.length - L.length) ≤ _; omega, by show szL L - z0 + (szL L1 - szL L) ≤ _; omega⟩) hE1 hE2 hn hz hloc
    (fun H1 locs1 hW1 hloc1 => k H1 locs1 lsA hW1 hloc1 hl (by omega) (by omega))
  · rw [List.mem_singleton.mp hw]
    exact (hK.2.1.warm hWU).at hm1 rfl
  · intro sig hsig
    have h2 := hm3.2.2
    rw [hsig] at h2
    exact (Option.some.inj h2).symm
theorem x_callI (hP : IsW g i d nc ns res P) {y : MethodName} {cc : ByteArray} {nL n : Nat} {idx b d2 : Nat} {stk : List Value} {L1 : List Lay} {M1 : Mem} (hm : mIK (y, cc, nL, none, n)) (hyn : y.name = "<init>") (hi : Cond.instanceMethod y ∈ lw_tbl) (hlk : Cond.methodLink i.1.cls idx y ∈ lw_tbl ∨ ∃ h, Cond.methodLinkNest i.1.cls idx y h ∈ lw_tbl) (as : List Value) (hna : as.length = n) (hst : stk = as.reverse ++ .ref b :: st) (hcat : (st.map fun v => v.category).sum ≤ 8)
    (hd : decode i.2.1 pc = .ok (.invokespecial idx, 3)) (hE : ExM g d2 (y, cc, nL, none, n) (.ref b :: as) L M (none, L1, M1)) (hdd : d2 + 1 ≤ d) (hcap : L1.length ≤ nc ∧ szL L1 ≤ ns) (k : P (pc + 3) ls st L1 M1) : P pc ls stk L M := by
  obtain ⟨p, l, e, R, s, m, args, below, meth, c, Q, n0, z0, rfl, hx, hb, hml, hown, hK, hR, hlks, hnm, hg0, hres⟩ := hP
  intro H locs lsA hW hloc hl hn hz
  obtain ⟨hE1, hE2, hE3⟩ := hE
  have hE1 : L.length ≤ L1.length := hE1
  have hE2 : szL L ≤ szL L1 := hE2
  obtain ⟨hm1, hm2, hm3, hm4⟩ := id hm
  have hm4 : nL ≤ 10 := hm4
  have hss : (as.map (cv g)).reverse ++ .ref (gB g + b) :: st.map (cv g) = stk.map (cv g) := by
    rw [hst, List.map_append, List.map_reverse]; rfl
  have hcat2 : ((st.map (cv g)).map fun v => v.category).sum ≤ 8 := by rw [List.map_map]; simpa [Function.comp_def, cv_cat] using hcat
  have hpre : PreS s H (Pq g (.ref b :: as) L M) (.ref (gB g + b) :: as.map (cv g)) := ⟨Pq_blind, fun U hU hWU => ⟨rfl, by rw [hU]; exact hW, hK.warm hWU⟩⟩
  have hw1 : ∀ w ∈ [Cond.code y cc nL none], ∀ (a' : Array Value) (U : State), s.WarmedH U.vm → w.before a' U = true := fun w hw a' U hWU => by
    rw [List.mem_singleton.mp hw]
    exact (hK.2.1.warm hWU).at hm1 rfl
  have hsig : ∀ sig, parseMethodDescriptor y.desc = some sig → n = sig.parameters.length := by
    intro sig hsig
    have h2 := hm3.2.2
    rw [hsig] at h2
    exact (Option.some.inj h2).symm
  rcases hlk with hlk | ⟨host, hlk⟩
  · exact x_run (g := g) (r := none) (L1 := L1) (M1 := M1) (a := (.ref (gB g + b) :: as.map (cv g) : List Value).toArray) (va_runI (n := n) (As := as.map (cv g)) (rest := st.map (cv g)) (Ts := []) ⟨hx, hb, hml, hown, fun w hw => absurd hw List.not_mem_nil⟩ (hE3 l)
      ⟨⟨rfl, rfl, by show d2 + 1 ≤ _; omega, by show 8 + (nL + 11) + 30 * d2 ≤ _; omega, hw1, List.mem_singleton.mpr rfl, hK.2.1.at hm1 rfl, hK.2.1.at hm2 rfl, ⟨hm3.1, hm3.2.1⟩, hsig, hK.2.1.at hlk rfl⟩, hyn, hK.2.1.at hi rfl⟩
      hpre rfl (by rw [List.length_map]; exact hna) hl.1 (hss.symm) (lv_room hcat2) hd ⟨by show L.length - n0 + (L1.length - L.length) ≤ _; omega, by show szL L - z0 + (szL L1 - szL L) ≤ _; omega⟩) hE1 hE2 hn hz hloc
      (fun H1 locs1 hW1 hloc1 => k H1 locs1 lsA hW1 hloc1 hl (by omega) (by omega))
  · exact x_run (g := g) (r := none) (L1 := L1) (M1 := M1) (a := (.ref (gB g + b) :: as.map (cv g) : List Value).toArray) (va_runIN (n := n) (As := as.map (cv g)) (rest := st.map (cv g)) (Ts := []) (host := host) ⟨hx, hb, hml, hown, fun w hw => absurd hw List.not_mem_nil⟩ (hE3 l)
      ⟨⟨⟨rfl, rfl, by show d2 + 1 ≤ _; omega, by show 8 + (nL + 11) + 30 * d2 ≤ _; omega, hw1, List.mem_singleton.mpr rfl⟩, hK.2.1.at hm1 rfl, hK.2.1.at hm2 rfl, ⟨hm3.1, hm3.2.1⟩, hsig, hK.2.1.at hlk rfl⟩, hyn, hK.2.1.at hi rfl⟩
      hpre rfl (by rw [List.length_map]; exact hna) hl.1 (hss.symm) (lv_room hcat2) hd ⟨by show L.length - n0 + (L1.length - L.length) ≤ _; omega, by show szL L - z0 + (szL L1 - szL L) ≤ _; omega⟩) hE1 hE2 hn hz hloc
      (fun H1 locs1 hW1 hloc1 => k H1 locs1 lsA hW1 hloc1 hl (by omega) (by omega))
end MAKER

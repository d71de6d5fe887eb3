-- 07.calls: rules of arrays, making, returns, calls, the library's own
section ARRR
variable {g : GG} {i : MI} {d nc ns : Nat} {res : Option RS} {P : PT} {pc : Nat} {ls : List (Option Value)} {st : List Value} {L : List Lay} {M : Mem}
theorem x_iald (hP : IsW g i d nc ns res P) {id n : Nat} {x : Int32} (hL : L[id]? = some (.inl (.int, n))) (hin : vp_in x n) (hd : decode i.2.1 pc = .ok (.iaload, 1)) (k : P (pc + 1) ls (.int (M.1 id x.toNatClampNeg) :: st) L M) : P pc ls (.int x :: .ref id :: st) L M := by
  obtain ⟨p, l, e, R, s, m, args, below, meth, c, Q, n0, z0, rfl, hx, hb, hml, hown, hK, hR, hlk, hnm, hg0, hres⟩ := hP
  intro H locs lsA hW hloc hl hn hz
  exact va_iald hx hb hK.1 hW.2.2 id 0 (ws_at hL) rfl hin hd (k H locs lsA hW hloc hl hn hz)
theorem x_bald (hP : IsW g i d nc ns res P) {id n : Nat} {x : Int32} (hL : L[id]? = some (.inl (.byte, n))) (hin : vp_in x n) (hd : decode i.2.1 pc = .ok (.baload, 1)) (k : P (pc + 1) ls (.int (M.1 id x.toNatClampNeg) :: st) L M) : P pc ls (.int x :: .ref id :: st) L M := by
  obtain ⟨p, l, e, R, s, m, args, below, meth, c, Q, n0, z0, rfl, hx, hb, hml, hown, hK, hR, hlk, hnm, hg0, hres⟩ := hP
  intro H locs lsA hW hloc hl hn hz
  exact va_bald hx hb hK.1 hW.2.2 id 2 (ws_at hL) rfl hin hd (k H locs lsA hW hloc hl hn hz)
theorem x_zald (hP : IsW g i d nc ns res P) {id n : Nat} {x : Int32} (hL : L[id]? = some (.inl (.boolean, n))) (hin : vp_in x n) (hd : decode i.2.1 pc = .ok (.baload, 1)) (k : P (pc + 1) ls (.int (M.1 id x.toNatClampNeg) :: st) L M) : P pc ls (.int x :: .ref id :: st) L M := by
  obtain ⟨p, l, e, R, s, m, args, below, meth, c, Q, n0, z0, rfl, hx, hb, hml, hown, hK, hR, hlk, hnm, hg0, hres⟩ := hP
  intro H locs lsA hW hloc hl hn hz
  exact va_zald hx hb hK.1 hW.2.2 id 3 (ws_at hL) rfl hin hd (k H locs lsA hW hloc hl hn hz)
theorem x_lald (hP : IsW g i d nc ns res P) {id n : Nat} {x : Int32} (hL : L[id]? = some (.inl (.long, n))) (hin : vp_in x n) (hd : decode i.2.1 pc = .ok (.laload, 1)) (k : P (pc + 1) ls (.long (M.2.1 id x.toNatClampNeg) :: st) L M) : P pc ls (.int x :: .ref id :: st) L M := by
  obtain ⟨p, l, e, R, s, m, args, below, meth, c, Q, n0, z0, rfl, hx, hb, hml, hown, hK, hR, hlk, hnm, hg0, hres⟩ := hP
  intro H locs lsA hW hloc hl hn hz
  exact va_lald hx hb hK.1 hW.2.2 id 1 (ws_at hL) rfl hin hd (k H locs lsA hW hloc hl hn hz)
theorem gT_in {g : GG} {q : ClassId × FieldType} (h : q ∈ gT g) : q.1 = g.2.1 q.2 := by
  simp only [gT, List.mem_cons, List.not_mem_nil, or_false] at h
  rcases h with rfl | rfl | rfl | rfl <;> rfl
theorem x_alen (hP : IsW g i d nc ns res P) {id n : Nat} {ty : FieldType} (hL : L[id]? = some (.inl (ty, n))) (ht : ∃ t0 : Nat, (gT g)[t0]? = some (g.2.1 ty, ty)) (hd : decode i.2.1 pc = .ok (.arraylength, 1)) (k : P (pc + 1) ls (.int (Int32.ofNat n) :: st) L M) : P pc ls (.ref id :: st) L M := by
  obtain ⟨p, l, e, R, s, m, args, below, meth, c, Q, n0, z0, rfl, hx, hb, hml, hown, hK, hR, hlk, hnm, hg0, hres⟩ := hP
  intro H locs lsA hW hloc hl hn hz
  obtain ⟨t0, ht⟩ := ht
  exact va_alen hx hb hK.1 hW.2.2 id t0 (ws_at hL) ht (v := Int32.ofNat n) (by cases ty <;> rfl) hd (k H locs lsA hW hloc hl hn hz)
theorem x_iast (hP : IsW g i d nc ns res P) {id n : Nat} {x y : Int32} (hL : L[id]? = some (.inl (.int, n))) (hin : vp_in x n) (hd : decode i.2.1 pc = .ok (.iastore, 1)) (k : P (pc + 1) ls st L (sI M id x.toNatClampNeg y)) : P pc ls (.int y :: .int x :: .ref id :: st) L M := by
  obtain ⟨p, l, e, R, s, m, args, below, meth, c, Q, n0, z0, rfl, hx, hb, hml, hown, hK, hR, hlk, hnm, hg0, hres⟩ := hP
  intro H locs lsA hW hloc hl hn hz
  have hc : H[gB g + id]? = some (vp_cell (g.2.1 .int) (n, .inl (M.1 id))) := hW.2.2 id _ (ws_at hL)
  refine W.iast hx hb hc ((hK.1.2 0 _ rfl).1 n (fun j => .int (M.1 id j))) (fun q => by cases q) (by show ¬ (x < 0 ∨ (arrV _ _ _).slots.size ≤ _); rw [arrV_size]; exact hin) rfl rfl hd fun H1 e z oq => ?_
  refine k H1 _ lsA (hW.put hL ?_ z oq cellE_sI) (fun q hq => ?_) hl hn hz
  · show H1[gB g + id]? = some (vp_cell (g.2.1 .int) (n, .inl ((sI M id x.toNatClampNeg y).1 id)))
    rw [e, sI_in, vp_cell_i, vp_cell_i, arrV_store]
    congr 2
    funext q
    by_cases hq : q = x.toNatClampNeg
    · subst hq; simp [updV, upd]
    · simp [updV, upd, hq]
  · rcases List.mem_append.mp hq with h | h
    · exact hloc q h
    · rw [List.mem_singleton.mp h]; exact Nat.le_add_right _ _
theorem x_bast (hP : IsW g i d nc ns res P) {id n : Nat} {x y : Int32} (hL : L[id]? = some (.inl (.byte, n))) (hin : vp_in x n) (hd : decode i.2.1 pc = .ok (.bastore, 1)) (k : P (pc + 1) ls st L (sI M id x.toNatClampNeg (vp_nar .byte y))) : P pc ls (.int y :: .int x :: .ref id :: st) L M := by
  obtain ⟨p, l, e, R, s, m, args, below, meth, c, Q, n0, z0, rfl, hx, hb, hml, hown, hK, hR, hlk, hnm, hg0, hres⟩ := hP
  intro H locs lsA hW hloc hl hn hz
  have hc : H[gB g + id]? = some (vp_cell (g.2.1 .byte) (n, .inl (M.1 id))) := hW.2.2 id _ (ws_at hL)
  refine W.bast hx hb hc ((hK.1.2 2 _ rfl).1 n (fun j => .int (M.1 id j))) (fun q => by cases q) (by show ¬ (x < 0 ∨ (arrV _ _ _).slots.size ≤ _); rw [arrV_size]; exact hin) rfl rfl hd fun H1 e z oq => ?_
  refine k H1 _ lsA (hW.put hL ?_ z oq cellE_sI) (fun q hq => ?_) hl hn hz
  · show H1[gB g + id]? = some (vp_cell (g.2.1 .byte) (n, .inl ((sI M id x.toNatClampNeg (vp_nar .byte y)).1 id)))
    rw [e, sI_in, vp_cell_i, vp_cell_i, arrV_store]
    congr 2
    funext q
    by_cases hq : q = x.toNatClampNeg
    · subst hq; simp [updV, upd, vp_nar, narrow]
    · simp [updV, upd, hq]
  · rcases List.mem_append.mp hq with h | h
    · exact hloc q h
    · rw [List.mem_singleton.mp h]; exact Nat.le_add_right _ _
theorem x_zast (hP : IsW g i d nc ns res P) {id n : Nat} {x y : Int32} (hL : L[id]? = some (.inl (.boolean, n))) (hin : vp_in x n) (hd : decode i.2.1 pc = .ok (.bastore, 1)) (k : P (pc + 1) ls st L (sI M id x.toNatClampNeg (vp_nar .boolean y))) : P pc ls (.int y :: .int x :: .ref id :: st) L M := by
  obtain ⟨p, l, e, R, s, m, args, below, meth, c, Q, n0, z0, rfl, hx, hb, hml, hown, hK, hR, hlk, hnm, hg0, hres⟩ := hP
  intro H locs lsA hW hloc hl hn hz
  have hc : H[gB g + id]? = some (vp_cell (g.2.1 .boolean) (n, .inl (M.1 id))) := hW.2.2 id _ (ws_at hL)
  refine W.zast hx hb hc ((hK.1.2 3 _ rfl).1 n (fun j => .int (M.1 id j))) (fun q => by cases q) (by show ¬ (x < 0 ∨ (arrV _ _ _).slots.size ≤ _); rw [arrV_size]; exact hin) rfl rfl hd fun H1 e z oq => ?_
  refine k H1 _ lsA (hW.put hL ?_ z oq cellE_sI) (fun q hq => ?_) hl hn hz
  · show H1[gB g + id]? = some (vp_cell (g.2.1 .boolean) (n, .inl ((sI M id x.toNatClampNeg (vp_nar .boolean y)).1 id)))
    rw [e, sI_in, vp_cell_i, vp_cell_i, arrV_store]
    congr 2
    funext q
    by_cases hq : q = x.toNatClampNeg
    · subst hq; simp [updV, upd, vp_nar, narrow]
    · simp [updV, upd, hq]
  · rcases List.mem_append.mp hq with h | h
    · exact hloc q h
    · rw [List.mem_singleton.mp h]; exact Nat.le_add_right _ _
theorem x_last (hP : IsW g i d nc ns res P) {id n : Nat} {x : Int32} {y : Int64} (hL : L[id]? = some (.inl (.long, n))) (hin : vp_in x n) (hd : decode i.2.1 pc = .ok (.lastore, 1)) (k : P (pc + 1) ls st L (sJ M id x.toNatClampNeg y)) : P pc ls (.long y :: .int x :: .ref id :: st) L M := by
  obtain ⟨p, l, e, R, s, m, args, below, meth, c, Q, n0, z0, rfl, hx, hb, hml, hown, hK, hR, hlk, hnm, hg0, hres⟩ := hP
  intro H locs lsA hW hloc hl hn hz
  have hc : H[gB g + id]? = some (vp_cell (g.2.1 .long) (n, .inr (.inl (M.2.1 id)))) := hW.2.2 id _ (ws_at hL)
  refine W.last hx hb hc ((hK.1.2 1 _ rfl).1 n (fun j => .long (M.2.1 id j))) (fun q => by cases q) (by show ¬ (x < 0 ∨ (arrV _ _ _).slots.size ≤ _); rw [arrV_size]; exact hin) rfl rfl hd fun H1 e z oq => ?_
  refine k H1 _ lsA (hW.put hL ?_ z oq cellE_sJ) (fun q hq => ?_) hl hn hz
  · show H1[gB g + id]? = some (vp_cell (g.2.1 .long) (n, .inr (.inl ((sJ M id x.toNatClampNeg y).2.1 id))))
    rw [e, show (sJ M id x.toNatClampNeg y).2.1 id = vp_updL (M.2.1 id) x.toNatClampNeg y from if_pos rfl, vp_cell_l, vp_cell_l, arrV_store]
    congr 2
    funext q
    by_cases hq : q = x.toNatClampNeg
    · subst hq; simp [updV, vp_updL]
    · simp [updV, vp_updL, hq]
  · rcases List.mem_append.mp hq with h | h
    · exact hloc q h
    · rw [List.mem_singleton.mp h]; exact Nat.le_add_right _ _
-- returns
theorem x_iret {v : Int32} (hP : IsW g i d nc ns (some (some (.int v), L, M)) P) (hr : i.2.2.2.1 = some .int) (hd : decode i.2.1 pc = .ok (.ireturn, 1)) : P pc ls [.int v] L M := by
  obtain ⟨p, l, e, R, s, m, args, below, meth, c, Q, n0, z0, rfl, hx, hb, hml, hown, hK, hR, hlk, hnm, hg0, hres⟩ := hP
  intro H locs lsA hW hloc hl hn hz
  obtain ⟨h1, rfl⟩ := hres _ rfl
  exact W.iret hx hb (h1.trans hr) (fun t ht _ => ⟨rfl, by rw [ht]; exact hW⟩) hloc hd
theorem x_zret {v : Int32} (hP : IsW g i d nc ns (some (some (.int v), L, M)) P) (hr : i.2.2.2.1 = some .boolean) (hv : v = 0 ∨ v = 1) (hd : decode i.2.1 pc = .ok (.ireturn, 1)) : P pc ls [.int v] L M := by
  obtain ⟨p, l, e, R, s, m, args, below, meth, c, Q, n0, z0, rfl, hx, hb, hml, hown, hK, hR, hlk, hnm, hg0, hres⟩ := hP
  intro H locs lsA hW hloc hl hn hz
  obtain ⟨h1, rfl⟩ := hres _ rfl
  exact W.zret hx hb (h1.trans hr) (by rcases hv with rfl | rfl <;> rfl) (fun t ht _ => ⟨rfl, by rw [ht]; exact hW⟩) hloc hd
theorem x_lret {v : Int64} (hP : IsW g i d nc ns (some (some (.long v), L, M)) P) (hr : i.2.2.2.1 = some .long) (hd : decode i.2.1 pc = .ok (.lreturn, 1)) : P pc ls [.long v] L M := by
  obtain ⟨p, l, e, R, s, m, args, below, meth, c, Q, n0, z0, rfl, hx, hb, hml, hown, hK, hR, hlk, hnm, hg0, hres⟩ := hP
  intro H locs lsA hW hloc hl hn hz
  obtain ⟨h1, rfl⟩ := hres _ rfl
  exact W.lret hx hb (h1.trans hr) (fun t ht _ => ⟨rfl, by rw [ht]; exact hW⟩) hloc hd
theorem x_aret {v : Nat} (hP : IsW g i d nc ns (some (some (.ref v), L, M)) P) {C : String} (hr : i.2.2.2.1 = some (.object C)) (hd : decode i.2.1 pc = .ok (.areturn, 1)) : P pc ls [.ref v] L M := by
  obtain ⟨p, l, e, R, s, m, args, below, meth, c, Q, n0, z0, rfl, hx, hb, hml, hown, hK, hR, hlk, hnm, hg0, hres⟩ := hP
  intro H locs lsA hW hloc hl hn hz
  obtain ⟨h1, rfl⟩ := hres _ rfl
  exact W.aret hx hb (h1.trans hr) (Or.inl ⟨C, rfl⟩) (Or.inr ⟨_, rfl⟩) (fun t ht _ => ⟨rfl, by rw [ht]; exact hW⟩) hloc hd
theorem x_vret (hP : IsW g i d nc ns (some (none, L, M)) P) (hr : i.2.2.2.1 = none) (hd : decode i.2.1 pc = .ok (.return_, 1)) : P pc ls [] L M := by
  obtain ⟨p, l, e, R, s, m, args, below, meth, c, Q, n0, z0, rfl, hx, hb, hml, hown, hK, hR, hlk, hnm, hg0, hres⟩ := hP
  intro H locs lsA hW hloc hl hn hz
  obtain ⟨h1, rfl⟩ := hres _ rfl
  exact W.vret hx hb (h1.trans hr) (fun t ht _ => ⟨rfl, by rw [ht]; exact hW⟩) hloc hd
-- calls
theorem x_run {g : GG} {L L1 : List Lay} {M1 : Mem} {r : Option Value} {st : List Value} {n0 z0 : Nat} {p : Program} {l : Launch} {e : Env} {R : Room} {s : State} {m : MethodId} {args : Array Value} {below : List Frame} {meth : Method} {c : Code} {Q : State → Prop} {H : Heap} {locs : List Loc} {lsA : Array Slot} {pc : Nat} {st0 : List Value} {a : Array Value}
    (hr : va_Run p l e R s m args below meth c H locs (L.length - n0) (szL L - z0) (L1.length - L.length) (szL L1 - szL L) (F0 m pc lsA st0) (st.map (cv g)) (Qq g (r, L1, M1) a) (fun q => gB g ≤ q)) (hL : L.length ≤ L1.length) (hZ : szL L ≤ szL L1) (hn : n0 ≤ L.length) (hz : z0 ≤ szL L) (hloc : ∀ q ∈ locs, gB g ≤ q.base)
    (kk : ∀ (H1 : Heap) (locs1 : List Loc), Wo g L1 M1 H1 → (∀ q ∈ locs1, gB g ≤ q.base) → W p l e R s m args below meth c H1 locs1 (L1.length - n0) (szL L1 - z0) Q (F0 m (pc + 3) lsA ((r.toList ++ st).map (cv g)))) : W p l e R s m args below meth c H locs (L.length - n0) (szL L - z0) Q (F0 m pc lsA st0) := by
  intro T hT X
  obtain ⟨v, st₀, t, T', LL, h0, X', hLL, e1, e2, ⟨hv, hw⟩, hg⟩ := hr T hT X
  have hv2 : v = r.map (cv g) := by injection hv
  subst hv2
  have ec : L.length - n0 + (L1.length - L.length) = L1.length - n0 := by omega
  have es : szL L - z0 + (szL L1 - szL L) = szL L1 - z0 := by omega
  rw [ec, es] at X'
  have hst : (r.toList ++ st).map (cv g) = (r.map (cv g)).toList ++ st.map (cv g) := by cases r <;> rfl
  obtain ⟨t2, a1, b1⟩ := kk T'.heap (locs ++ LL) (by rw [e1]; exact hw) (fun q hq => by
    rcases List.mem_append.mp hq with h | h
    · exact hloc q h
    · exact hLL q h) T' rfl X'
  rw [hst] at a1
  exact ⟨t2, hg t2 a1, b1⟩
theorem Pq_blind {g : GG} {as : List Value} {L : List Lay} {M : Mem} : FrameBlind (Pq g as L M) := fun _ _ _ _ h => ⟨h.1, h.2.1, h.2.2.calling⟩
theorem mIK_good {i : MI} (h : mIK i) : GoodIn lw_tbl [Cond.code i.1 i.2.1 i.2.2.1 i.2.2.2.1] := fun w hw => by
  rw [List.mem_singleton.mp hw]
  exact ⟨h.1, good_of_word rfl⟩
theorem x_callV (hP : IsW g i d nc ns res P) {j : MI} {idx b ci d2 : Nat} {rf : List (Option Nat)} {stk : List Value} {r : Option Value} {L1 : List Lay} {M1 : Mem} (hm : mIK j) (hi : Cond.instanceMethod j.1 ∈ lw_tbl) (he : Cond.selects j.1.cls j.1 j.1 ∈ lw_tbl) (hlk : Cond.methodLink i.1.cls idx j.1 ∈ lw_tbl) (as : List Value) (hna : as.length = j.2.2.2.2) (hst : stk = as.reverse ++ .ref b :: st) (hcat : (st.map fun v => v.category).sum ≤ 8) (hLb : L[b]? = some (.inr (ci, rf))) (hcl : (vwCl[ci]?).map (fun q => q.1) = some j.1.cls)
    (hd : decode i.2.1 pc = .ok (.invokevirtual idx, 3)) (hE : ExM g d2 j (.ref b :: as) L M (r, L1, M1)) (hdd : d2 + 1 ≤ d) (hcap : L1.length ≤ nc ∧ szL L1 ≤ ns) (k : P (pc + 3) ls (r.toList ++ st) L1 M1) : P pc ls stk L M := by
  obtain ⟨p, l, e, R, s, m, args, below, meth, c, Q, n0, z0, rfl, hx, hb, hml, hown, hK, hR, hlks, hnm, hg0, hres⟩ := hP
  intro H locs lsA hW hloc hl hn hz
  obtain ⟨hE1, hE2, hE3⟩ := hE
  have hE1 : L.length ≤ L1.length := hE1
  have hE2 : szL L ≤ szL L1 := hE2
  obtain ⟨hm1, hm2, hm3, hm4⟩ := id hm
  have hrecv : ∃ cellB : Cell, H[gB g + b]? = some cellB ∧ cellB.vm.isStatics = false ∧ s.vm.findClass j.1.cls = some cellB.cls := by
    obtain ⟨q, h1, cell, q1, q2, q3, q4⟩ := hW.2.2 b _ (ws_at hLb)
    have h1' : vwCl[ci]? = some q := h1
    rw [h1'] at hcl
    have hq := hK.1.1 ci q h1'
    refine ⟨cell, q1, by rw [q3]; rfl, ?_⟩
    have hc2 : q.1 = j.1.cls := Option.some.inj hcl
    rw [← hc2, q2]
    exact hq.2.1
  have hss : (as.map (cv g)).reverse ++ .ref (gB g + b) :: st.map (cv g) = stk.map (cv g) := by
    rw [hst, List.map_append, List.map_reverse]; rfl
  have hcat2 : ((st.map (cv g)).map fun v => v.category).sum ≤ 8 := by rw [List.map_map]; simpa [Function.comp_def, cv_cat] using hcat
  refine x_run (g := g) (r := r) (L1 := L1) (M1 := M1) (a := (.ref (gB g + b) :: as.map (cv g) : List Value).toArray) (va_runV (n := j.2.2.2.2) (As := as.map (cv g)) (rest := st.map (cv g)) (Ts := []) ⟨hx, hb, hml, hown, fun w hw => absurd hw List.not_mem_nil⟩ (hE3 l)
    ⟨⟨rfl, rfl, by show d2 + 1 ≤ _; omega, by show 8 + (j.2.2.1 + 11) + 30 * d2 ≤ _; omega, fun w hw a' U hWU => ?_, List.mem_singleton.mpr rfl, hK.2.1.at hm1 rfl, hK.2.1.at hm2 rfl, ⟨hm3.1, hm3.2.1⟩, ?_, hK.2.1.at hlk rfl⟩, hK.2.1.at hi rfl, hK.2.1.at he rfl⟩
    ⟨Pq_blind, hrecv, fun U hU hWU => ⟨rfl, by rw [hU]; exact hW, hK.warm hWU⟩⟩ rfl (by rw [List.length_map]; exact hna) hl.1 (hss.symm) (lv_room hcat2) hd ⟨by show L.length - n0 + (L1.length - L.length) ≤ _; omega, by show szL L - z0 + (szL L1 - szL L) ≤ _; omega⟩) hE1 hE2 hn hz hloc
    (fun H1 locs1 hW1 hloc1 => k H1 locs1 lsA hW1 hloc1 hl (by omega) (by omega))
  · rw [List.mem_singleton.mp hw]
    exact (hK.2.1.warm hWU).at hm1 rfl
  · intro sig hsig
    have h2 := hm3.2.2
    rw [hsig] at h2
    exact (Option.some.inj h2).symm
end ARRR

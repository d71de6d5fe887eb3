-- 11s.str: the two String constants, the library methods that they meet (words by program, rows by hand: emit_str.py)
theorem wJ0_9 : Cond.fieldLink RJ0 9 "java/lang/String" "value" "[B" ∈ lw_tbl := tb_8 _ (List.mem_of_getElem? (i := 225) rfl)
theorem wJ0_15 : Cond.fieldLink RJ0 15 "java/lang/String" "coder" "B" ∈ lw_tbl := tb_8 _ (List.mem_of_getElem? (i := 226) rfl)
theorem wJ0_38 : Cond.fieldLink RJ0 38 "java/lang/String" "COMPACT_STRINGS" "Z" ∈ lw_tbl := tb_1 _ (List.mem_of_getElem? (i := 188) rfl)
theorem wJ0_1053 : Cond.fieldLink RJ0 1053 "jdk/internal/util/Preconditions" "SIOOBE_FORMATTER" "Ljava/util/function/BiFunction;" ∈ lw_tbl := tb_1 _ (List.mem_of_getElem? (i := 204) rfl)
theorem pnJ0 : plainName RJ0 = true := by decide +kernel
theorem pnJ1 : plainName RJ1 = true := by decide +kernel
theorem pnJ3 : plainName RJ3 = true := by decide +kernel
def sBy (k : Nat) : List Int32 := if k = 0 then byQ else byS
def slen (k : Nat) : Int32 := if k = 0 then 132 else 9
theorem sBy_len {a : Nat} (ha : a = 0 ∨ a = 2) : Int32.ofNat (sBy a).length = slen a := by rcases ha with rfl | rfl <;> decide +kernel
theorem sBy0 : (sBy 0).length = 132 := by decide +kernel
theorem sBy2 : (sBy 2).length = 9 := by decide +kernel
theorem SX.str {g : GG} {U : State} (h : SX g U) {k : Nat} (hk : k = 0 ∨ k = 2) : ∃ a b : Nat, g.2.2.2.1 k = .ref a ∧ g.2.2.2.1 (k + 1) = .ref b ∧ strAt a b (sBy k) (fun q => gB g ≤ q) U g.2.2.1 := by
  obtain ⟨⟨a, b, h1, h2, h3, h4⟩, ⟨a', b', h5, h6, h7, h8⟩, -⟩ := h
  rcases hk with rfl | rfl
  · exact ⟨a, b, h1, h2, h3⟩
  · exact ⟨a', b', h5, h6, h7⟩
theorem Wo.old {g : GG} {L : List Lay} {M : Mem} {H : Heap} (hW : Wo g L M H) : ∀ a : Nat, a < g.2.2.1.size → ¬ (gB g ≤ a) → H[a]? = g.2.2.1[a]? := fun a ha _ => hW.2.1 a ha
theorem svr {g : GG} {n a : Nat} (h : g.2.2.2.1 n = .ref a) : cv g (.retAddr n) = .ref a := by show svO _ = _; rw [h]; rfl
section STRR
variable {g : GG} {i : MI} {d nc ns : Nat} {res : Option RS} {P : PT} {pc : Nat} {ls : List (Option Value)} {st : List Value} {L : List Lay} {M : Mem}
theorem x_ldcQ (hP : IsW g i d nc ns res P) (hc : i.1.cls = "BlushLamps$Tokens") (hd : decode i.2.1 pc = .ok (.ldc 25, 2)) (k : P (pc + 2) ls (.retAddr 0 :: st) L M) : P pc ls st L M := by
  obtain ⟨p, l, e, R, s, m, args, below, meth, c, Q, n0, z0, rfl, hx, hb, hml, hown, hK, hR, hlk, hnm, hg0, hres⟩ := hP
  intro H locs lsA hW hloc hl hn hz
  obtain ⟨⟨a, b, h1, h2, h3, h4⟩, -⟩ := hK.2.2
  have h5 := k H locs lsA hW hloc hl hn hz
  rw [List.map_cons, svr h1] at h5
  exact va_ldcS hx hb hown (by rw [hc]; exact h4) hd h5
theorem x_ldcS (hP : IsW g i d nc ns res P) (hc : i.1.cls = "BlushLamps$Tokens") (hd : decode i.2.1 pc = .ok (.ldc 68, 2)) (k : P (pc + 2) ls (.retAddr 2 :: st) L M) : P pc ls st L M := by
  obtain ⟨p, l, e, R, s, m, args, below, meth, c, Q, n0, z0, rfl, hx, hb, hml, hown, hK, hR, hlk, hnm, hg0, hres⟩ := hP
  intro H locs lsA hW hloc hl hn hz
  obtain ⟨-, ⟨a, b, h1, h2, h3, h4⟩, -⟩ := hK.2.2
  have h5 := k H locs lsA hW hloc hl hn hz
  rw [List.map_cons, svr h1] at h5
  exact va_ldcS hx hb hown (by rw [hc]; exact h4) hd h5
theorem x_aloadS (hP : IsW g i d nc ns res P) {kk : Fin 4} {a : Nat} (hd : decode i.2.1 pc = .ok (.aload_n kk, 1)) (hi : ls[(kk : Nat)]? = some (some (.retAddr a))) (ha : a = 0 ∨ a = 1 ∨ a = 2 ∨ a = 3) (k : P (pc + 1) ls (.retAddr a :: st) L M) : P pc ls st L M := by
  obtain ⟨p, l, e, R, s, m, args, below, meth, c, Q, n0, z0, rfl, hx, hb, hml, hown, hK, hR, hlk, hnm, hg0, hres⟩ := hP
  intro H locs lsA hW hloc hl hn hz
  have h0 : ∃ x, g.2.2.2.1 a = .ref x := by
    obtain ⟨a1, b1, h1, h2, -⟩ := hK.2.2.str (k := 0) (Or.inl rfl)
    obtain ⟨a2, b2, h3, h4, -⟩ := hK.2.2.str (k := 2) (Or.inr rfl)
    rcases ha with rfl | rfl | rfl | rfl
    · exact ⟨_, h1⟩
    · exact ⟨_, h2⟩
    · exact ⟨_, h3⟩
    · exact ⟨_, h4⟩
  obtain ⟨x, h0⟩ := h0
  have h5 := k H locs lsA hW hloc hl hn hz
  rw [List.map_cons, svr h0] at h5
  have h6 := hl.2.2 _ _ hi
  rw [svr h0] at h6
  exact lv_aload_n hx hb hd rfl h6 h5
theorem x_sval (hP : IsW g i d nc ns res P) {a : Nat} (ha : a = 0 ∨ a = 2) (hc : i.1.cls = RJ0) (hd : decode i.2.1 pc = .ok (.getfield 9, 3)) (k : P (pc + 3) ls (.retAddr (a + 1) :: st) L M) : P pc ls (.retAddr a :: st) L M := by
  obtain ⟨p, l, e, R, s, m, args, below, meth, c, Q, n0, z0, rfl, hx, hb, hml, hown, hK, hR, hlk, hnm, hg0, hres⟩ := hP
  intro H locs lsA hW hloc hl hn hz
  obtain ⟨x, y, h1, h2, h3, h4, h5, h6⟩ := hK.2.2.str ha
  have h7 := k H locs lsA hW hloc hl hn hz
  rw [List.map_cons, svr h2] at h7
  rw [List.map_cons, svr h1]
  obtain ⟨cf, kf, fi, f, cell, q1, q2, q3, q4, q5, q6⟩ := va_OF.kept h5 (hW.old)
  exact W.getf hx hb hown (by rw [hc]; exact hK.2.1.at wJ0_9 rfl) q1 q2 q3 q4 q5 rfl rfl hd h7
theorem x_scod (hP : IsW g i d nc ns res P) {a : Nat} (ha : a = 0 ∨ a = 2) (hc : i.1.cls = RJ0) (hd : decode i.2.1 pc = .ok (.getfield 15, 3)) (k : P (pc + 3) ls (.int 0 :: st) L M) : P pc ls (.retAddr a :: st) L M := by
  obtain ⟨p, l, e, R, s, m, args, below, meth, c, Q, n0, z0, rfl, hx, hb, hml, hown, hK, hR, hlk, hnm, hg0, hres⟩ := hP
  intro H locs lsA hW hloc hl hn hz
  obtain ⟨x, y, h1, h2, h3, h4, h5, h6⟩ := hK.2.2.str ha
  have h7 := k H locs lsA hW hloc hl hn hz
  rw [List.map_cons, svr h1]
  obtain ⟨cf, kf, fi, f, cell, q1, q2, q3, q4, q5, q6⟩ := va_OF.kept h4 (hW.old)
  exact W.getf hx hb hown (by rw [hc]; exact hK.2.1.at wJ0_15 rfl) q1 q2 q3 q4 q5 rfl rfl hd h7
theorem x_scmp (hP : IsW g i d nc ns res P) (hc : i.1.cls = RJ0) (hd : decode i.2.1 pc = .ok (.getstatic 38, 3)) (k : P (pc + 3) ls (.int 1 :: st) L M) : P pc ls st L M := by
  obtain ⟨p, l, e, R, s, m, args, below, meth, c, Q, n0, z0, rfl, hx, hb, hml, hown, hK, hR, hlk, hnm, hg0, hres⟩ := hP
  intro H locs lsA hW hloc hl hn hz
  obtain ⟨-, -, h1, -⟩ := hK.2.2
  obtain ⟨cf, kf, fi, f, a, cell, q1, q2, q3, q4, q5, q6, q7, q8⟩ := va_Z.kept h1 (hW.old)
  exact W.gets hx hb hown (by rw [hc]; exact hK.2.1.at wJ0_38 rfl) q1 q2 q3 q4 q5 (fun e => by rw [e] at q6; cases q6) q7 rfl hd (k H locs lsA hW hloc hl hn hz)
theorem x_sfmt (hP : IsW g i d nc ns res P) (hc : i.1.cls = RJ0) (hd : decode i.2.1 pc = .ok (.getstatic 1053, 3)) (k : P (pc + 3) ls (.retAddr 4 :: st) L M) : P pc ls st L M := by
  obtain ⟨p, l, e, R, s, m, args, below, meth, c, Q, n0, z0, rfl, hx, hb, hml, hown, hK, hR, hlk, hnm, hg0, hres⟩ := hP
  intro H locs lsA hW hloc hl hn hz
  obtain ⟨-, -, -, ⟨v, h1, h2⟩, -⟩ := hK.2.2
  obtain ⟨cf, kf, fi, f, a, cell, q1, q2, q3, q4, q5, q6, q7, q8⟩ := va_Z.kept h1 (hW.old)
  have h7 := k H locs lsA hW hloc hl hn hz
  rw [List.map_cons, show cv g (.retAddr 4) = v from h2] at h7
  exact W.gets hx hb hown (by rw [hc]; exact hK.2.1.at wJ0_1053 rfl) q1 q2 q3 q4 q5 (fun e => by rw [e] at q6; cases q6) q7 rfl hd h7
theorem x_sbld (hP : IsW g i d nc ns res P) {a : Nat} {x : Int32} (ha : a = 0 ∨ a = 2) (hin : vp_in x (sBy a).length) (hd : decode i.2.1 pc = .ok (.baload, 1)) (k : P (pc + 1) ls (.int ((sBy a).getD x.toNatClampNeg 0) :: st) L M) : P pc ls (.int x :: .retAddr (a + 1) :: st) L M := by
  obtain ⟨p, l, e, R, s, m, args, below, meth, c, Q, n0, z0, rfl, hx, hb, hml, hown, hK, hR, hlk, hnm, hg0, hres⟩ := hP
  intro H locs lsA hW hloc hl hn hz
  obtain ⟨u, y, h1, h2, h3, h4, h5, h6⟩ := hK.2.2.str ha
  rw [List.map_cons, List.map_cons, svr h2]
  obtain ⟨cell, q1, q2, q3, q4, q5, q6, q7⟩ := va_T.kept h6 (hW.old)
  have hlt : x.toNatClampNeg < (sBy a).length := Nat.not_le.mp fun q => hin (Or.inr q)
  exact W.bald hx hb q1 q2 q3 (fun h => hin (h.imp id (fun z => Nat.le_trans q4 z))) (q6 _ hlt) rfl rfl hd (k H locs lsA hW hloc hl hn hz)
theorem x_salen (hP : IsW g i d nc ns res P) {a : Nat} (ha : a = 0 ∨ a = 2) (hd : decode i.2.1 pc = .ok (.arraylength, 1)) (k : P (pc + 1) ls (.int (slen a) :: st) L M) : P pc ls (.retAddr (a + 1) :: st) L M := by
  obtain ⟨p, l, e, R, s, m, args, below, meth, c, Q, n0, z0, rfl, hx, hb, hml, hown, hK, hR, hlk, hnm, hg0, hres⟩ := hP
  intro H locs lsA hW hloc hl hn hz
  obtain ⟨u, y, h1, h2, h3, h4, h5, h6⟩ := hK.2.2.str ha
  rw [List.map_cons, svr h2]
  obtain ⟨cell, q1, q2, q3, q4, q5, q6, q7⟩ := va_T.kept h6 (hW.old)
  exact W.alen (n := slen a) hx hb q1 q2 (by rw [q5]; exact sBy_len ha) rfl rfl hd (k H locs lsA hW hloc hl hn hz)
theorem x_nret {v : Int32} {ty : FieldType} (hP : IsW g i d nc ns (some (some (.int v), L, M)) P) (hr : i.2.2.2.1 = some ty) (hv : narrow ty (.int v) = .int v) (hd : decode i.2.1 pc = .ok (.ireturn, 1)) : P pc ls [.int v] L M := by
  obtain ⟨p, l, e, R, s, m, args, below, meth, c, Q, n0, z0, rfl, hx, hb, hml, hown, hK, hR, hlk, hnm, hg0, hres⟩ := hP
  intro H locs lsA hW hloc hl hn hz
  obtain ⟨h1, rfl⟩ := hres _ rfl
  exact W.zret hx hb (h1.trans hr) hv (fun t ht _ => ⟨rfl, by rw [ht]; exact hW⟩) hloc hd
theorem x_callVS (hP : IsW g i d L.length (szL L) res P) {j : MI} {idx b d2 : Nat} {stk : List Value} {v : Int32} (hm : mIK j) (hi : Cond.instanceMethod j.1 ∈ lw_tbl) (he : Cond.selects j.1.cls j.1 j.1 ∈ lw_tbl) (hjc : j.1.cls = RJ0) (hlk : Cond.methodLink i.1.cls idx j.1 ∈ lw_tbl) (as : List Value) (st : List Value) (hna : as.length = j.2.2.2.2) (hst : stk = as.reverse ++ .retAddr b :: st) (hcat : Nat.ble (st.map fun v => v.category).sum 8 = true) (hb2 : b = 0 ∨ b = 2)
    (hd : decode i.2.1 pc = .ok (.invokevirtual idx, 3)) (hE : ExM g d2 j (.retAddr b :: as) L M (some (.int v), L, M)) (hdd : d2 + 1 ≤ d) (k : P (pc + 3) ls (.int v :: st) L M) : P pc ls stk L M := by
  obtain ⟨p, l, e, R, s, m, args, below, meth, c, Q, n0, z0, rfl, hx, hb, hml, hown, hK, hR, hlks, hnm, hg0, hres⟩ := hP
  intro H locs lsA hW hloc hl hn hz
  obtain ⟨hE1, hE2, hE3⟩ := hE
  obtain ⟨hm1, hm2, hm3, hm4⟩ := id hm
  obtain ⟨u, y, h1, h2, h3, h4, h5, h6⟩ := hK.2.2.str hb2
  have hrecv : ∃ cellB : Cell, H[u]? = some cellB ∧ cellB.vm.isStatics = false ∧ s.vm.findClass j.1.cls = some cellB.cls := by
    obtain ⟨cell, q1, q2, q3, q4⟩ := va_O.kept h3 (hW.old)
    exact ⟨cell, q1, q2, by rw [hjc]; exact q3⟩
  have hss : (as.map (cv g)).reverse ++ .ref u :: st.map (cv g) = stk.map (cv g) := by
    rw [hst, List.map_append, List.map_reverse, List.map_cons, svr h1]
  have hpre : Pq g (.retAddr b :: as) L M = fun v U => v = (Value.ref u :: as.map (cv g)).toArray ∧ Wo g L M U.heap ∧ KK g U := by
    unfold Pq
    rw [List.map_cons, svr h1]
  have hcat2 : ((st.map (cv g)).map fun v => v.category).sum ≤ 8 := by
    have hcat := Nat.le_of_ble_eq_true hcat
    rw [List.map_map]; simpa [Function.comp_def, cv_cat] using hcat
  refine x_run (g := g) (r := some (.int v)) (L1 := L) (M1 := M) (a := (.ref u :: as.map (cv g) : List Value).toArray) (va_runV (n := j.2.2.2.2) (As := as.map (cv g)) (rest := st.map (cv g)) (Ts := []) ⟨hx, hb, hml, hown, fun w hw => absurd hw List.not_mem_nil⟩ (hE3 l)
    ⟨⟨rfl, rfl, by show d2 + 1 ≤ _; omega, by show 8 + (j.2.2.1 + 11) + 30 * d2 ≤ _; omega, fun w hw a' U hWU => ?_, List.mem_singleton.mpr rfl, hK.2.1.at hm1 rfl, hK.2.1.at hm2 rfl, ⟨hm3.1, hm3.2.1⟩, ?_, hK.2.1.at hlk rfl⟩, hK.2.1.at hi rfl, hK.2.1.at he rfl⟩
    ⟨Pq_blind, hrecv, fun U hU hWU => ?_⟩ rfl (by rw [List.length_map]; exact hna) hl.1 (hss.symm) (lv_room hcat2) hd ⟨by show L.length - n0 + (L.length - L.length) ≤ _; omega, by show szL L - z0 + (szL L - szL L) ≤ _; omega⟩) (Nat.le_refl _) (Nat.le_refl _) hn hz hloc
    (fun H1 locs1 hW1 hloc1 => k H1 locs1 lsA hW1 hloc1 hl (by omega) (by omega))
  · rw [List.mem_singleton.mp hw]
    exact (hK.2.1.warm hWU).at hm1 rfl
  · intro sig hsig
    have h2 := hm3.2.2
    rw [hsig] at h2
    exact (Option.some.inj h2).symm
  · rw [hpre]
    exact ⟨rfl, by rw [hU]; exact hW, hK.warm hWU⟩
end STRR
set_option maxRecDepth 20000 in
theorem t_coder {g : GG} {d : Nat} {L : List Lay} {M : Mem} {k : Nat} (hk : k = 0 ∨ k = 2) : ExM g d iJ0_coder_7d493 [.retAddr k] L M (some (.int 0), L, M) := by
  refine ExM.main pnJ0 rfl (ls := [some (.retAddr k)]) rfl ?_
  intro P hP
  refine x_scmp hP rfl dJ0_coder_7d493_0 ?_
  refine x_if_eq hP dJ0_coder_7d493_3 (tgt := 13) (by decide) (fun h => absurd h (by decide)) (fun _ => ?_)
  refine x_aloadS hP dJ0_coder_7d493_6 rfl (by omega) ?_
  refine x_scod hP hk rfl dJ0_coder_7d493_7 ?_
  refine x_goto hP dJ0_coder_7d493_10 (tgt := 14) (by decide) ?_
  exact x_nret hP rfl rfl dJ0_coder_7d493_14
set_option maxRecDepth 20000 in
theorem t_isLatin1 {g : GG} {d : Nat} {L : List Lay} {M : Mem} {k : Nat} (hk : k = 0 ∨ k = 2) : ExM g d iJ0_isLatin1_aae02 [.retAddr k] L M (some (.int 1), L, M) := by
  refine ExM.main pnJ0 rfl (ls := [some (.retAddr k)]) rfl ?_
  intro P hP
  refine x_scmp hP rfl dJ0_isLatin1_aae02_0 ?_
  refine x_if_eq hP dJ0_isLatin1_aae02_3 (tgt := 17) (by decide) (fun h => absurd h (by decide)) (fun _ => ?_)
  refine x_aloadS hP dJ0_isLatin1_aae02_6 rfl (by omega) ?_
  refine x_scod hP hk rfl dJ0_isLatin1_aae02_7 ?_
  refine x_if_ne hP dJ0_isLatin1_aae02_10 (tgt := 17) (by decide) (fun h => absurd rfl h) (fun _ => ?_)
  refine x_iconst hP dJ0_isLatin1_aae02_13 (v := 1) rfl ?_
  refine x_goto hP dJ0_isLatin1_aae02_14 (tgt := 18) (by decide) ?_
  exact x_zret hP rfl (Or.inr rfl) dJ0_isLatin1_aae02_18
set_option maxRecDepth 20000 in
theorem t_length {g : GG} {d : Nat} (hd : 1 ≤ d) {L : List Lay} {M : Mem} {k : Nat} (hk : k = 0 ∨ k = 2) : ExM g d iJ0_length_8abf5 [.retAddr k] L M (some (.int (slen k)), L, M) := by
  refine ExM.main pnJ0 rfl (ls := [some (.retAddr k)]) rfl ?_
  intro P hP
  refine x_aloadS hP dJ0_length_8abf5_0 rfl (by omega) ?_
  refine x_sval hP hk rfl dJ0_length_8abf5_1 ?_
  refine x_salen hP hk dJ0_length_8abf5_4 ?_
  refine x_aloadS hP dJ0_length_8abf5_5 rfl (by omega) ?_
  refine x_callVS (j := iJ0_coder_7d493) hP kJ0_coder_7d493 vJ0_coder_7d493 eJ0_coder_7d493 rfl lJ0_335 [] [.int (slen k)] rfl rfl rfl hk dJ0_length_8abf5_6 (t_coder (d := d - 1) hk) (by omega) ?_
  refine x_ishr hP dJ0_length_8abf5_9 ?_
  refine y_nmI (v := slen k) (by rcases hk with rfl | rfl <;> decide) ?_
  exact x_iret hP rfl dJ0_length_8abf5_10
set_option maxRecDepth 20000 in
theorem t_J3ck {g : GG} {d : Nat} {L : List Lay} {M : Mem} {x n : Int32} (h0 : ¬ x < 0) (h1 : x < n) : ExM g d iJ3_checkIndex_8e157 [.int x, .int n, .retAddr 4] L M (some (.int x), L, M) := by
  refine ExM.main pnJ3 rfl (ls := [some (.int x), some (.int n), some (.retAddr 4)]) rfl ?_
  intro P hP
  refine x_iload_n hP dJ3_checkIndex_8e157_0 rfl ?_
  refine x_if_lt hP dJ3_checkIndex_8e157_1 (tgt := 9) (by decide) (fun h => absurd h h0) (fun _ => ?_)
  refine x_iload_n hP dJ3_checkIndex_8e157_4 rfl ?_
  refine x_iload_n hP dJ3_checkIndex_8e157_5 rfl ?_
  refine x_icmp_lt hP dJ3_checkIndex_8e157_6 (tgt := 16) (by decide) (fun _ => ?_) (fun h => absurd h1 h)
  refine x_iload_n hP dJ3_checkIndex_8e157_16 rfl ?_
  exact x_iret hP rfl dJ3_checkIndex_8e157_17
set_option maxRecDepth 20000 in
theorem t_J0ck {g : GG} {d : Nat} (hd : 1 ≤ d) {L : List Lay} {M : Mem} {x n : Int32} (h0 : ¬ x < 0) (h1 : x < n) : ExM g d iJ0_checkIndex_df160 [.int x, .int n] L M (none, L, M) := by
  refine ExM.main pnJ0 rfl (ls := [some (.int x), some (.int n)]) rfl ?_
  intro P hP
  refine x_iload_n hP dJ0_checkIndex_df160_0 rfl ?_
  refine x_iload_n hP dJ0_checkIndex_df160_1 rfl ?_
  refine x_sfmt hP rfl dJ0_checkIndex_df160_2 ?_
  refine y_csi hP oJ3_checkIndex_8e157 lJ0_1059 [.int x, .int n, .retAddr 4] [] rfl rfl rfl dJ0_checkIndex_df160_5 (t_J3ck (d := d - 1) h0 h1) (by omega) ?_
  refine x_pop hP dJ0_checkIndex_df160_8 rfl ?_
  exact x_vret hP rfl dJ0_checkIndex_df160_9
/-- the sign at place x of QUOTED -/
def qch (x : Int32) : Int32 := ((((byQ.getD x.toNatClampNeg 0) &&& (255 : Int32)).toUInt32 % 65536).toInt32)
set_option maxRecDepth 20000 in
theorem t_J1ch {g : GG} {d : Nat} (hd : 2 ≤ d) {L : List Lay} {M : Mem} {x : Int32} (h0 : ¬ x < 0) (h1 : x < 132) : ExM g d iJ1_charAt_3b067 [.retAddr 1, .int x] L M (some (.int (qch x)), L, M) := by
  have hin : vp_in x (sBy 0).length := by
    rw [vp_in_iff, sBy0]
    have a1 := Int32.not_lt.mp h0
    have a2 := Int32.le_iff_toInt_le.mp a1
    have a3 := Int32.lt_iff_toInt_lt.mp h1
    exact ⟨a2, a3⟩
  refine ExM.main pnJ1 rfl (ls := [some (.retAddr 1), some (.int x)]) rfl ?_
  intro P hP
  refine x_iload_n hP dJ1_charAt_3b067_0 rfl ?_
  refine x_aloadS hP dJ1_charAt_3b067_1 rfl (by omega) ?_
  refine x_salen hP (a := 0) (Or.inl rfl) dJ1_charAt_3b067_2 ?_
  refine y_csv hP oJ0_checkIndex_df160 lJ1_9 [.int x, .int 132] [] rfl rfl rfl dJ1_charAt_3b067_3 (t_J0ck (d := d - 1) (by omega) h0 h1) (by omega) ?_
  refine x_aloadS hP dJ1_charAt_3b067_6 rfl (by omega) ?_
  refine x_iload_n hP dJ1_charAt_3b067_7 rfl ?_
  refine x_sbld hP (a := 0) (Or.inl rfl) hin dJ1_charAt_3b067_8 ?_
  refine x_sipush hP dJ1_charAt_3b067_9 (v := 255) rfl ?_
  refine x_iand hP dJ1_charAt_3b067_12 ?_
  refine x_i2c hP dJ1_charAt_3b067_13 ?_
  exact x_nret hP rfl (pk_nc _) dJ1_charAt_3b067_14
set_option maxRecDepth 20000 in
theorem t_charAt {g : GG} {d : Nat} (hd : 3 ≤ d) {L : List Lay} {M : Mem} {x : Int32} (h0 : ¬ x < 0) (h1 : x < 132) : ExM g d iJ0_charAt_5068e [.retAddr 0, .int x] L M (some (.int (qch x)), L, M) := by
  refine ExM.main pnJ0 rfl (ls := [some (.retAddr 0), some (.int x)]) rfl ?_
  intro P hP
  refine x_aloadS hP dJ0_charAt_5068e_0 rfl (by omega) ?_
  refine x_callVS (j := iJ0_isLatin1_aae02) hP kJ0_isLatin1_aae02 vJ0_isLatin1_aae02 eJ0_isLatin1_aae02 rfl lJ0_492 [] [] rfl rfl rfl (Or.inl rfl) dJ0_charAt_5068e_1 (t_isLatin1 (d := d - 1) (Or.inl rfl)) (by omega) ?_
  refine x_if_eq hP dJ0_charAt_5068e_4 (tgt := 16) (by decide) (fun h => absurd h (by decide)) (fun _ => ?_)
  refine x_aloadS hP dJ0_charAt_5068e_7 rfl (by omega) ?_
  refine x_sval hP (Or.inl rfl) rfl dJ0_charAt_5068e_8 ?_
  refine x_iload_n hP dJ0_charAt_5068e_11 rfl ?_
  refine y_csi hP oJ1_charAt_3b067 lJ0_495 [.retAddr 1, .int x] [] rfl rfl rfl dJ0_charAt_5068e_12 (t_J1ch (d := d - 1) (by omega) h0 h1) (by omega) ?_
  exact x_nret hP rfl (pk_nc _) dJ0_charAt_5068e_15
def sFd (b : Int32) : List Int32 → Nat → Int32
  | [], _ => -1
  | x :: r, i => if x = b then nI i else sFd b r (i + 1)
/-- the place of a sign in SIGNS -/
def sIx (c : Int32) : Int32 := if c < 0 then -1 else if 255 < c then -1 else sFd c.toInt8.toInt32 byS 0
theorem sFd_step {b : Int32} {i : Nat} (hi : i < 9) : sFd b (byS.drop i) i = if byS.getD i 0 = b then nI i else sFd b (byS.drop (i + 1)) (i + 1) := by
  match i, hi with
  | 0, _ => rfl
  | 1, _ => rfl
  | 2, _ => rfl
  | 3, _ => rfl
  | 4, _ => rfl
  | 5, _ => rfl
  | 6, _ => rfl
  | 7, _ => rfl
  | 8, _ => rfl
  | n + 9, h => exact absurd h (by omega)
set_option maxRecDepth 20000 in
theorem t_idxL {g : GG} {d : Nat} {L : List Lay} {M : Mem} {P : PT} {c b r : Int32} (hP : IsW g iJ1_indexOfChar_4cfef d L.length (szL L) (some (some (.int r), L, M)) P) : ∀ (n i : Nat), i + n = 9 → sFd b (byS.drop i) i = r → P 7 [some (.retAddr 3), some (.int c), some (.int 0), some (.int 9), some (.int b), some (.int (nI i))] [] L M
  | 0, i, hi, hr => by
    have h9 : i = 9 := by omega
    subst h9
    refine x_iload hP dJ1_indexOfChar_4cfef_7 rfl ?_
    refine x_iload_n hP dJ1_indexOfChar_4cfef_9 rfl ?_
    refine x_icmp_ge hP dJ1_indexOfChar_4cfef_10 (tgt := 31) (by decide) (fun _ => ?_) (fun h => absurd (by decide) h)
    refine x_iconst hP dJ1_indexOfChar_4cfef_31 (v := -1) rfl ?_
    subst hr
    exact x_iret hP rfl dJ1_indexOfChar_4cfef_32
  | n + 1, i, hi, hr => by
    have h9 : i < 9 := by omega
    rw [sFd_step h9] at hr
    refine x_iload hP dJ1_indexOfChar_4cfef_7 rfl ?_
    refine x_iload_n hP dJ1_indexOfChar_4cfef_9 rfl ?_
    refine x_icmp_ge hP dJ1_indexOfChar_4cfef_10 (tgt := 31) (by decide) (fun h => absurd h (nI_ge (b := 9) h9 (by decide))) (fun _ => ?_)
    refine x_aloadS hP dJ1_indexOfChar_4cfef_13 rfl (by omega) ?_
    refine x_iload hP dJ1_indexOfChar_4cfef_14 rfl ?_
    refine x_sbld hP (a := 2) (Or.inr rfl) (by rw [sBy2]; exact vp_in_nI h9 (by omega)) dJ1_indexOfChar_4cfef_16 ?_
    refine x_iload hP dJ1_indexOfChar_4cfef_17 rfl ?_
    rw [nI_clamp (by omega : i < 2 ^ 31)]
    refine x_icmp_ne hP dJ1_indexOfChar_4cfef_19 (tgt := 25) (by decide) (fun h => ?_) (fun h => ?_)
    · refine x_iinc hP (v := nI (i + 1)) (ls2 := [some (.retAddr 3), some (.int c), some (.int 0), some (.int 9), some (.int b), some (.int (nI (i + 1)))]) dJ1_indexOfChar_4cfef_25 rfl (by rw [← nI_1]; rfl) rfl rfl ?_
      refine x_goto hP dJ1_indexOfChar_4cfef_28 (tgt := 7) (by decide) ?_
      exact t_idxL hP n (i + 1) (by omega) (p_f h hr)
    · refine x_iload hP dJ1_indexOfChar_4cfef_22 rfl ?_
      have h2 := p_t h hr
      subst h2
      exact x_iret hP rfl dJ1_indexOfChar_4cfef_24
set_option maxRecDepth 20000 in
theorem t_idxC {g : GG} {d : Nat} {L : List Lay} {M : Mem} {c : Int32} : ExM g d iJ1_indexOfChar_4cfef [.retAddr 3, .int c, .int 0, .int 9] L M (some (.int (sFd c.toInt8.toInt32 byS 0)), L, M) := by
  refine ExM.main pnJ1 rfl (ls := [some (.retAddr 3), some (.int c), some (.int 0), some (.int 9), none, none]) rfl ?_
  intro P hP
  refine x_iload_n hP dJ1_indexOfChar_4cfef_0 rfl ?_
  refine x_i2b hP dJ1_indexOfChar_4cfef_1 ?_
  refine x_istore hP (ls2 := [some (.retAddr 3), some (.int c), some (.int 0), some (.int 9), some (.int c.toInt8.toInt32), none]) dJ1_indexOfChar_4cfef_2 rfl rfl ?_
  refine x_iload_n hP dJ1_indexOfChar_4cfef_4 rfl ?_
  refine x_istore hP (ls2 := [some (.retAddr 3), some (.int c), some (.int 0), some (.int 9), some (.int c.toInt8.toInt32), some (.int 0)]) dJ1_indexOfChar_4cfef_5 rfl rfl ?_
  exact t_idxL hP 9 0 rfl rfl
set_option maxRecDepth 20000 in
theorem t_canEnc {g : GG} {d : Nat} {L : List Lay} {M : Mem} {c : Int32} : ExM g d iJ1_canEncode_9a6ad [.int c] L M (some (.int (if c < 0 then 0 else if 255 < c then 0 else 1)), L, M) := by
  refine ExM.main pnJ1 rfl (ls := [some (.int c)]) rfl ?_
  intro P hP
  refine x_iload_n hP dJ1_canEncode_9a6ad_0 rfl ?_
  refine x_if_lt hP dJ1_canEncode_9a6ad_1 (tgt := 15) (by decide) (fun h => ?_) (fun h => ?_)
  · rw [if_pos h] at hP
    refine x_iconst hP dJ1_canEncode_9a6ad_15 (v := 0) rfl ?_
    exact x_zret hP rfl (Or.inl rfl) dJ1_canEncode_9a6ad_16
  · rw [if_neg h] at hP
    refine x_iload_n hP dJ1_canEncode_9a6ad_4 rfl ?_
    refine x_sipush hP dJ1_canEncode_9a6ad_5 (v := 255) rfl ?_
    refine x_icmp_gt hP dJ1_canEncode_9a6ad_8 (tgt := 15) (by decide) (fun h2 => ?_) (fun h2 => ?_)
    · rw [if_pos h2] at hP
      refine x_iconst hP dJ1_canEncode_9a6ad_15 (v := 0) rfl ?_
      exact x_zret hP rfl (Or.inl rfl) dJ1_canEncode_9a6ad_16
    · rw [if_neg h2] at hP
      refine x_iconst hP dJ1_canEncode_9a6ad_11 (v := 1) rfl ?_
      refine x_goto hP dJ1_canEncode_9a6ad_12 (tgt := 16) (by decide) ?_
      exact x_zret hP rfl (Or.inr rfl) dJ1_canEncode_9a6ad_16
set_option maxRecDepth 20000 in
theorem t_J1idx {g : GG} {d : Nat} (hd : 2 ≤ d) {L : List Lay} {M : Mem} {c : Int32} : ExM g d iJ1_indexOf_4cfef [.retAddr 3, .int c, .int 0, .int 9] L M (some (.int (sIx c)), L, M) := by
  refine ExM.main pnJ1 rfl (ls := [some (.retAddr 3), some (.int c), some (.int 0), some (.int 9)]) rfl ?_
  intro P hP
  refine x_iload_n hP dJ1_indexOf_4cfef_0 rfl ?_
  refine y_csi hP oJ1_canEncode_9a6ad lJ1_88 [.int c] [] rfl rfl rfl dJ1_indexOf_4cfef_1 (t_canEnc (d := d - 1)) (by omega) ?_
  by_cases h1 : c < 0
  · rw [if_pos h1]
    rw [show sIx c = -1 from if_pos h1] at hP
    refine x_if_ne hP dJ1_indexOf_4cfef_4 (tgt := 9) (by decide) (fun h => absurd rfl h) (fun _ => ?_)
    refine x_iconst hP dJ1_indexOf_4cfef_7 (v := -1) rfl ?_
    exact x_iret hP rfl dJ1_indexOf_4cfef_8
  by_cases h2 : 255 < c
  · rw [if_neg h1, if_pos h2]
    rw [show sIx c = -1 from (if_neg h1).trans (if_pos h2)] at hP
    refine x_if_ne hP dJ1_indexOf_4cfef_4 (tgt := 9) (by decide) (fun h => absurd rfl h) (fun _ => ?_)
    refine x_iconst hP dJ1_indexOf_4cfef_7 (v := -1) rfl ?_
    exact x_iret hP rfl dJ1_indexOf_4cfef_8
  rw [if_neg h1, if_neg h2]
  rw [show sIx c = sFd c.toInt8.toInt32 byS 0 from (if_neg h1).trans (if_neg h2)] at hP
  refine x_if_ne hP dJ1_indexOf_4cfef_4 (tgt := 9) (by decide) (fun _ => ?_) (fun h => absurd h (by decide))
  refine x_iload_n hP dJ1_indexOf_4cfef_9 rfl ?_
  refine x_iconst hP dJ1_indexOf_4cfef_10 (v := 0) rfl ?_
  refine y_max hP lJ1_92 rfl (by omega) dJ1_indexOf_4cfef_11 ?_
  refine y_nmI (v := 0) (by decide) ?_
  refine x_istore_n hP (ls2 := [some (.retAddr 3), some (.int c), some (.int 0), some (.int 9)]) dJ1_indexOf_4cfef_14 rfl rfl rfl ?_
  refine x_iload_n hP dJ1_indexOf_4cfef_15 rfl ?_
  refine x_aloadS hP dJ1_indexOf_4cfef_16 rfl (by omega) ?_
  refine x_salen hP (a := 2) (Or.inr rfl) dJ1_indexOf_4cfef_17 ?_
  refine y_min hP lJ1_38 rfl (by omega) dJ1_indexOf_4cfef_18 ?_
  refine y_nmI (v := 9) (by decide) ?_
  refine x_istore_n hP (ls2 := [some (.retAddr 3), some (.int c), some (.int 0), some (.int 9)]) dJ1_indexOf_4cfef_21 rfl rfl rfl ?_
  refine x_iload_n hP dJ1_indexOf_4cfef_22 rfl ?_
  refine x_iload_n hP dJ1_indexOf_4cfef_23 rfl ?_
  refine x_icmp_lt hP dJ1_indexOf_4cfef_24 (tgt := 29) (by decide) (fun _ => ?_) (fun h => absurd (by decide) h)
  refine x_aloadS hP dJ1_indexOf_4cfef_29 rfl (by omega) ?_
  refine x_iload_n hP dJ1_indexOf_4cfef_30 rfl ?_
  refine x_iload_n hP dJ1_indexOf_4cfef_31 rfl ?_
  refine x_iload_n hP dJ1_indexOf_4cfef_32 rfl ?_
  refine y_csi hP oJ1_indexOfChar_4cfef lJ1_95 [.retAddr 3, .int c, .int 0, .int 9] [] rfl rfl rfl dJ1_indexOf_4cfef_33 (t_idxC (d := d - 1)) (by omega) ?_
  exact x_iret hP rfl dJ1_indexOf_4cfef_36
set_option maxRecDepth 20000 in
theorem t_J0idx2 {g : GG} {d : Nat} (hd : 3 ≤ d) {L : List Lay} {M : Mem} {c : Int32} : ExM g d iJ0_indexOf_7cf53 [.retAddr 2, .int c, .int 0] L M (some (.int (sIx c)), L, M) := by
  refine ExM.main pnJ0 rfl (ls := [some (.retAddr 2), some (.int c), some (.int 0)]) rfl ?_
  intro P hP
  refine x_aloadS hP dJ0_indexOf_7cf53_0 rfl (by omega) ?_
  refine x_callVS (j := iJ0_isLatin1_aae02) hP kJ0_isLatin1_aae02 vJ0_isLatin1_aae02 eJ0_isLatin1_aae02 rfl lJ0_492 [] [] rfl rfl rfl (Or.inr rfl) dJ0_indexOf_7cf53_1 (t_isLatin1 (d := d - 1) (Or.inr rfl)) (by omega) ?_
  refine x_if_eq hP dJ0_indexOf_7cf53_4 (tgt := 23) (by decide) (fun h => absurd h (by decide)) (fun _ => ?_)
  refine x_aloadS hP dJ0_indexOf_7cf53_7 rfl (by omega) ?_
  refine x_sval hP (Or.inr rfl) rfl dJ0_indexOf_7cf53_8 ?_
  refine x_iload_n hP dJ0_indexOf_7cf53_11 rfl ?_
  refine x_iload_n hP dJ0_indexOf_7cf53_12 rfl ?_
  refine x_aloadS hP dJ0_indexOf_7cf53_13 rfl (by omega) ?_
  refine x_callVS (j := iJ0_length_8abf5) hP kJ0_length_8abf5 vJ0_length_8abf5 eJ0_length_8abf5 rfl lJ0_505 [] [.int 0, .int c, .retAddr 3] rfl rfl rfl (Or.inr rfl) dJ0_indexOf_7cf53_14 (t_length (d := d - 1) (by omega) (Or.inr rfl)) (by omega) ?_
  refine y_csi hP oJ1_indexOf_4cfef lJ0_637 [.retAddr 3, .int c, .int 0, .int 9] [] rfl rfl rfl dJ0_indexOf_7cf53_17 (t_J1idx (d := d - 1) (by omega)) (by omega) ?_
  refine x_goto hP dJ0_indexOf_7cf53_20 (tgt := 36) (by decide) ?_
  exact x_iret hP rfl dJ0_indexOf_7cf53_36
set_option maxRecDepth 20000 in
theorem t_indexOf {g : GG} {d : Nat} (hd : 4 ≤ d) {L : List Lay} {M : Mem} {c : Int32} : ExM g d iJ0_indexOf_0f7a4 [.retAddr 2, .int c] L M (some (.int (sIx c)), L, M) := by
  refine ExM.main pnJ0 rfl (ls := [some (.retAddr 2), some (.int c)]) rfl ?_
  intro P hP
  refine x_aloadS hP dJ0_indexOf_0f7a4_0 rfl (by omega) ?_
  refine x_iload_n hP dJ0_indexOf_0f7a4_1 rfl ?_
  refine x_iconst hP dJ0_indexOf_0f7a4_2 (v := 0) rfl ?_
  refine x_callVS (j := iJ0_indexOf_7cf53) hP kJ0_indexOf_7cf53 vJ0_indexOf_7cf53 eJ0_indexOf_7cf53 rfl lJ0_633 [.int c, .int 0] [] rfl rfl rfl (Or.inr rfl) dJ0_indexOf_0f7a4_3 (t_J0idx2 (d := d - 1) (by omega)) (by omega) ?_
  exact x_iret hP rfl dJ0_indexOf_0f7a4_6

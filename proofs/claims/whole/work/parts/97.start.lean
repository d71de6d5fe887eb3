-- 97.start: the law from its entry (words of the skeleton ahead; the rest by hand: wip/whole/gen/emit_end.py)
/-! THE CLAIM OUT OF ONE WALK OF THE LAW'S BODY. Your part is whole_start (and what it stands on); all else here is the same for every law, but numbers. -/
def R_law : String := "BlushLampsLaw"
def lw_P (b : Addr) (xs : List Int32) (args : Array Value) (s : State) : Prop := args = #[.ref b] ∧ s.IntsAt b xs ∧ xs.length ≤ 3072 ∧ (Jvm.Cond.and given_1 narrow_1).before args s = true
def lw_Q (_ : Array Value) (s : State) (o : Outcome) (t : State) : Prop := o = .returned (some (.int 1)) ∧ Framed s o t [] 600000 7302250
def lw_Z (below : List Frame) (a : Array Value) (s : State) : State → Prop := fun t => ∃ o, t.status = .running ∧ Ended t below o ∧ lw_Q a s o t
/-- the law's own end, with 1 on the stack, nothing written that was there before, its room as the claim has it -/
theorem lw_ret {p : Program} {l : Launch} {e : Env} {s : State} {m : MethodId} {below : List Frame} {meth : Method} {c : Code} {b : Nat} (hx : p.tables.exec = Jvm.exec) (hb : c.code = code) (hr : meth.sig.returnType = ret) (hlocks : meth.locks = false) {pc : Nat} {H : Heap} {ls : Array Slot} (hdg : decode code pc = .ok (.ireturn, 1)) : W p l e room_1 s m #[Value.ref b] below meth c H [] 600000 7302250 (lw_Z below #[Value.ref b] s) (F0 m pc ls [.int 1]) := by
  intro T hT X
  obtain ⟨fs, hret, hrun, hended, hW, hframe⟩ := X.leave (v := some (.int 1)) (hlocks := hlocks) (fun h => by rw [hr] at h; cases h)
  have hmeth' : T.vm.method? m = some meth := X.method'
  refine ⟨T.setFrames fs, ?_, .returned (some (.int 1)), hrun, hended, rfl, ⟨_, rfl⟩, hW, hframe⟩
  jvm_step X.here [X.here.top, hx, hb, hdg, hmeth', hr, ret, narrow_b1]
  (try refine ⟨rfl, ?_⟩); (try refine ⟨rfl, ?_⟩)
  first | (intro acts; rw [hret _ acts rfl rfl rfl]) | rw [hret _ _ rfl rfl rfl]
  exact Steps.refl _
/-- what holds at the law's entry: the machine, the code, the tables' words (any of lw_tbl by 'hts w (by decide +kernel)'), the script of L ints xs at the cell b, what the Statement gives of the start (any of its parts by flat_of_before) -/
def lw_At (p : Program) (s : State) (m : MethodId) (meth : Method) (c : Code) (b L : Nat) (xs : Nat → Int32) : Prop :=
  p.tables.exec = Jvm.exec ∧ c.code = code ∧ meth.sig.returnType = ret ∧ c.maxLocals = 4 ∧ s.vm.findClass R_law = some m.cls ∧ (∀ w ∈ lw_tbl, w.before #[Value.ref b] s = true) ∧ va_X b L xs s s.heap ∧ b < s.heap.size ∧ meth.locks = false ∧ (Jvm.Cond.and given_1 narrow_1).before #[Value.ref b] s = true
theorem wS_q : Cond.stringRef "BlushLamps$Tokens" 25 txQ ∈ lw_tbl := tb_1 _ (List.mem_of_getElem? (i := 179) rfl)
theorem wS_s : Cond.stringRef "BlushLamps$Tokens" 68 txS ∈ lw_tbl := tb_3 _ (List.mem_of_getElem? (i := 96) rfl)
theorem wS_c : Cond.laysStatic "java/lang/String" "COMPACT_STRINGS" "Z" ∈ lw_tbl := tb_1 _ (List.mem_of_getElem? (i := 189) rfl)
theorem wS_f : Cond.laysStatic "jdk/internal/util/Preconditions" "SIOOBE_FORMATTER" "Ljava/util/function/BiFunction;" ∈ lw_tbl := tb_1 _ (List.mem_of_getElem? (i := 205) rfl)
theorem ac_start {s : State} {args : Array Value} {ty : FieldType} (h : (Cond.arrayClass ty).before args s = true) : ∃ cA : ClassId, ArrOfT s cA ty ∧ s.vm.findClass ("[" ++ ty.toString) = some cA := by
  obtain ⟨cA, kA, comp, h1, h2, h3⟩ := Cond.arrayClass_spec h
  exact ⟨cA, fun n z => ⟨fun k h => (by cases h), kA, h2, comp, h3⟩, h1⟩
/-- the place of a String constant among the Statement's premises -/
def stT (i : Nat) : Term := .string "BlushLamps$Tokens" (if i = 0 then 25 else 68)
def stLen : List Nat := [byQ.length, byS.length]
def stBy : List (List Int32) := [byQ, byS]
def stOff (i : Nat) : Nat := if i = 0 then 9 else 145
abbrev gvC : Cond := Jvm.Cond.and given_1 narrow_1
set_option maxRecDepth 20000 in
theorem st_1 : ∀ i, i < 2 → (flatC gvC)[stOff i]? = some (Cond.exactly (stT i) "java/lang/String") := by decide +kernel
set_option maxRecDepth 20000 in
theorem st_2 : ∀ i, i < 2 → (flatC gvC)[stOff i + 1]? = some (Cond.eq (.field (stT i) "java/lang/String" "coder" "B") (.int 0)) := by decide +kernel
set_option maxRecDepth 20000 in
theorem st_3 : ∀ i, i < 2 → (flatC gvC)[stOff i + 2]? = some (Cond.arrayOf (.field (stT i) "java/lang/String" "value" "[B") .byte) := by decide +kernel
set_option maxRecDepth 20000 in
theorem st_4 : ∀ i, i < 2 → (flatC gvC)[stOff i + 3]? = some (Cond.eq (.length (.field (stT i) "java/lang/String" "value" "[B")) (.int (Int32.ofNat (stLen.getD i 0)))) := by decide +kernel
set_option maxRecDepth 20000 in
theorem st_5 : ∀ i, i < 2 → ∀ j, j < stLen.getD i 0 → (flatC gvC)[stOff i + 4 + j]? = some (Cond.eq (.elem (.field (stT i) "java/lang/String" "value" "[B") (.int (Int32.ofNat j))) (.int ((stBy.getD i []).getD j 0))) := by decide +kernel
set_option maxRecDepth 20000 in
theorem st_6 : (flatC gvC)[158]? = some (Cond.not (Cond.eq (stT 0) (stT 1))) := by decide +kernel
set_option maxRecDepth 20000 in
theorem st_7 : (flatC gvC)[4]? = some (Cond.eq (.static "java/lang/String" "COMPACT_STRINGS" "Z") (.int 1)) := by decide +kernel
set_option maxRecDepth 20000 in
theorem st_8 : (flatC gvC)[5]? = some (Cond.isRef (.static "jdk/internal/util/Preconditions" "SIOOBE_FORMATTER" "Ljava/util/function/BiFunction;")) := by decide +kernel
def svF (a0 b0 a1 b1 b : Nat) (v : Value) (n : Nat) : Value := match n with
  | 0 => .ref a0
  | 1 => .ref b0
  | 2 => .ref a1
  | 3 => .ref b1
  | 4 => v
  | 9 => .ref b
  | _ => .null
set_option maxHeartbeats 4000000 in
set_option maxRecDepth 20000 in
theorem start_KK {s : State} {b L : Nat} {xs : Nat → Int32} (hts : ∀ w ∈ lw_tbl, w.before #[Value.ref b] s = true) (hX : va_X b L xs s s.heap) (hbl : b < s.heap.size) (hgv : gvC.before #[Value.ref b] s = true) : ∃ g : GG, KK g s ∧ g.2.2.1 = s.heap ∧ g.2.2.2.1 9 = .ref b ∧ g.2.2.2.2 = (L, xs) := by
  have hs := flat_of_before _ hgv
  have hA : ∀ a : Nat, a < s.heap.size → ¬ (fun q : Nat => s.heap.size ≤ q) a := fun a h1 h2 => absurd h1 (Nat.not_lt.mpr h2)
  obtain ⟨adK, adV, hS, had⟩ := vk_Sof (N := 2) (tm := stT) (len := stLen) (byt := stBy) (A := fun q : Nat => s.heap.size ≤ q) (args := #[Value.ref b]) (s := s) (by decide +kernel)
    (fun i hi => hs _ (List.mem_of_getElem? (st_1 i hi))) (fun i hi => hs _ (List.mem_of_getElem? (st_2 i hi))) (fun i hi => hs _ (List.mem_of_getElem? (st_3 i hi))) (fun i hi => hs _ (List.mem_of_getElem? (st_4 i hi)))
    (fun i hi j hj => hs _ (List.mem_of_getElem? (st_5 i hi j hj)))
    (fun i j hi hj hne => by
      rcases (show (i = 0 ∧ j = 1) ∨ (i = 1 ∧ j = 0) by omega) with ⟨rfl, rfl⟩ | ⟨rfl, rfl⟩
      · exact Or.inl (hs _ (List.mem_of_getElem? st_6))
      · exact Or.inr (hs _ (List.mem_of_getElem? st_6))) hA
  have hC : va_Z "java/lang/String" "COMPACT_STRINGS" "Z" (.int 1) (fun q : Nat => s.heap.size ≤ q) s s.heap := va_Zof (hts _ wS_c) (hts _ zJ0) (va_eqi (hs _ (List.mem_of_getElem? st_7))) hA
  obtain ⟨v, hv1, hv2⟩ : ∃ v : Value, va_Z "jdk/internal/util/Preconditions" "SIOOBE_FORMATTER" "Ljava/util/function/BiFunction;" v (fun q : Nat => s.heap.size ≤ q) s s.heap ∧ svO v = v := by
    rcases va_Zqof (A := fun q : Nat => s.heap.size ≤ q) (hts _ wS_f) (hts _ zJ3) (hs _ (List.mem_of_getElem? st_8)) hA with h | ⟨t, h⟩
    · exact ⟨.null, h, rfl⟩
    · exact ⟨.ref t, h, rfl⟩
  have hkn : ∀ (k : Nat) (q : vw_C), vwCl[k]? = some q → ∃ (cC : ClassId) (iS : Nat → Nat), u_Kn s q.1 q.2.1 q.2.2 cC iS := by
    intro k q hq
    match k, hq with
    | 0, hq => cases hq; exact u_known hts inX0 (hts _ iX0)
    | 1, hq => cases hq; exact u_known hts inX1 (hts _ iX1)
    | 2, hq => cases hq; exact u_known hts inX2 (hts _ iX2)
    | 3, hq => cases hq; exact u_known hts inX3 (hts _ iX3)
    | 4, hq => cases hq; exact u_known hts inX4 (hts _ iX4)
    | 5, hq => cases hq; exact u_known hts inX5 (hts _ iX5)
    | 6, hq => cases hq; exact u_known hts inX6 (hts _ iX6)
    | 7, hq => cases hq; exact u_known hts inX7 (hts _ iX7)
    | 8, hq => cases hq; exact u_known hts inX8 (hts _ iX8)
    | 9, hq => cases hq; exact u_known hts inX9 (hts _ iX9)
    | 10, hq => cases hq; exact u_known hts inX10 (hts _ iX10)
    | 11, hq => cases hq; exact u_known hts inX11 (hts _ iX11)
    | 12, hq => cases hq; exact u_known hts inX12 (hts _ iX12)
    | n + 13, hq => simp [vwCl] at hq
  have hkn2 : ∀ k : Nat, ∃ z : ClassId × (Nat → Nat), ∀ q : vw_C, vwCl[k]? = some q → u_Kn s q.1 q.2.1 q.2.2 z.1 z.2 := by
    intro k
    cases hq : vwCl[k]? with
    | none => exact ⟨(0, fun _ => 0), fun q h => by cases h⟩
    | some q =>
      obtain ⟨cC, iS, h⟩ := hkn k q hq
      exact ⟨(cC, iS), fun q2 h2 => by cases h2; exact h⟩
  obtain ⟨D, hD⟩ := Classical.axiomOfChoice hkn2
  obtain ⟨cI, aI, fI⟩ := ac_start (hts _ ac_int)
  obtain ⟨cJ, aJ, fJ⟩ := ac_start (hts _ ac_long)
  obtain ⟨cB, aB, fB⟩ := ac_start (hts _ ac_byte)
  obtain ⟨cZ, aZ, fZ⟩ := ac_start (hts _ ac_boolean)
  let dA : FieldType → ClassId := fun ty => match ty with
    | .int => cI
    | .long => cJ
    | .byte => cB
    | _ => cZ
  refine ⟨((fun k => (D k).1, fun k => (D k).2), dA, s.heap, svF (adK 0) (adV 0) (adK 1) (adV 1) b v, L, xs), ⟨⟨fun k q hq => hD k q hq, ?_⟩, fun w hw hk => okW.warm (State.WarmedH.refl s) hk (hts w hw), ?_⟩, rfl, rfl, rfl⟩
  · intro k q hq
    match k, hq with
    | 0, hq => cases hq; exact ⟨aI, fI⟩
    | 1, hq => cases hq; exact ⟨aJ, fJ⟩
    | 2, hq => cases hq; exact ⟨aB, fB⟩
    | 3, hq => cases hq; exact ⟨aZ, fZ⟩
    | n + 4, hq => simp [gT] at hq
  · have h0 := hS.1 0 (by decide)
    have h1 := hS.1 1 (by decide)
    exact ⟨⟨adK 0, adV 0, rfl, rfl, h0, vk_R.of (hts _ wS_q) (had 0 (by decide))⟩, ⟨adK 1, adV 1, rfl, rfl, h1, vk_R.of (hts _ wS_s) (had 1 (by decide))⟩, hC, ⟨v, hv1, hv2⟩, b, rfl, hbl, hX⟩
def M00 : Mem := (fun _ _ => 0, fun _ _ => 0, fun _ _ => none)
set_option maxHeartbeats 4000000 in
set_option maxRecDepth 20000 in
/-- THE LAW, from its entry -/
theorem whole_start {p : Program} {e : Env} {s : State} {m : MethodId} {below : List Frame} {meth : Method} {c : Code} (l : Launch) (hflags : l.flags = flags0) {b L : Nat} {xs : Nat → Int32} (hL : L ≤ 3072) (C0 : lw_At p s m meth c b L xs) : W p l e room_1 s m #[Value.ref b] below meth c s.heap [] 0 0 (lw_Z below #[Value.ref b] s) (entryFrame m ([Value.ref b] : List Value).toArray 4) := by
  obtain ⟨hx, hb, hr, hml, hown, hts, hX, hbl, hlocks, hgv⟩ := id C0
  obtain ⟨g, hK, hgH, hg9, hgS⟩ := start_KK hts hX hbl hgv
  obtain ⟨M1, M2, hf1, hf2, hf3⟩ := pure_law L hL xs M00
  have hB : gB g = s.heap.size := by unfold gB; rw [hgH]
  have hP : IsW g iL_law 800 600000 7302250 none (Wx g 4 0 0 p l e room_1 s m #[Value.ref b] below meth c (lw_Z below #[Value.ref b] s)) := ⟨p, l, e, room_1, s, m, #[Value.ref b], below, meth, c, _, 0, 0, rfl, hx, hb, hml, hown, hK, ⟨by decide, by decide, by decide, by decide⟩, hlocks, fun h => absurd h (by decide), ⟨by rw [hB]; rfl, fun q _ => by rw [hgH]⟩, fun r h => by cases h⟩
  have hret : ∀ (pc : Nat) (ls : List (Option Value)) (M : Mem), decode code pc = .ok (.ireturn, 1) → (Wx g 4 0 0 p l e room_1 s m #[Value.ref b] below meth c (lw_Z below #[Value.ref b] s)) pc ls [.int 1] LAY M := by
    intro pc ls M hd H locs lsA hW hloc hl hn hz
    refine va_forget (fun q hq => by rw [← hB]; exact hloc q hq) ?_
    refine W.widen (k := 600000) (n := 7302250) (by decide +kernel) (by decide +kernel) ?_
    exact lw_ret hx hb hr hlocks hd
  generalize hPe : Wx g 4 0 0 p l e room_1 s m #[Value.ref b] below meth c (lw_Z below #[Value.ref b] s) = P at hP hret
  have main : P 0 [some (.retAddr 9), none, none, none] [] LS0 M00 := by
    refine z_new hP (L2 := LS1) (id := 0) (ci := 11) (M2 := nM M00 0) rfl rfl aL_7 iX11 zX11 (by decide +kernel) rfl dL_law_0 rfl ?_
    refine x_dup hP dL_law_3 rfl ?_
    refine x_callI hP (y := yX11_init) (cc := cX11_init) (nL := 3) (n := 0) kX11_init rfl vX11_init (Or.inl lL_9) [] rfl rfl (Nat.le_of_ble_eq_true rfl) dL_law_4 (ct_0 (d := 100) (by omega) hf1) (by omega) (by decide +kernel) ?_
    refine x_astore_n hP (ls2 := [some (.retAddr 9), some (.ref 0), none, none]) dL_law_7 rfl rfl rfl ?_
    refine z_new hP (L2 := LS132) (id := 67) (ci := 12) (M2 := nM M1 67) rfl rfl aL_10 iX12 zX12 (by decide +kernel) rfl dL_law_8 rfl ?_
    refine x_dup hP dL_law_11 rfl ?_
    refine x_callI hP (y := yX12_init) (cc := cX12_init) (nL := 1) (n := 0) kX12_init rfl vX12_init (Or.inl lL_12) [] rfl rfl (Nat.le_of_ble_eq_true rfl) dL_law_12 (ct_67 (d := 100) (by omega) hf2) (by omega) (by decide +kernel) ?_
    refine x_astore_n hP (ls2 := [some (.retAddr 9), some (.ref 0), some (.ref 67), none]) dL_law_15 rfl rfl rfl ?_
    refine x_iconst hP dL_law_16 (v := 0) rfl ?_
    refine x_istore_n hP (ls2 := [some (.retAddr 9), some (.ref 0), some (.ref 67), some (.int 0)]) dL_law_17 rfl rfl rfl ?_
    rw [LS_all]
    exact t_law_L hgS (by omega) (hP.weaken (by decide +kernel) (by decide +kernel)) hret _ _ _ hf3
  subst hPe
  rw [lg_entry_eq]
  have h0 := lv_entry ([.ref b]) (n := 4) (Nat.le_of_ble_eq_true rfl)
  refine main s.heap [] _ ⟨by rw [hB]; rfl, fun q _ => by rw [hgH], fun k q h => ?_⟩ (fun q h => by cases h) ⟨h0.1, h0.2.1, fun i v hi => ?_⟩ (Nat.le_refl _) (Nat.le_refl _)
  · simp [wsOf, LS0] at h
  · match i, hi with
    | 0, hi =>
      cases hi
      rw [svr hg9]
      exact h0.2.2 (0, .ref b) List.mem_cons_self
    | 1, hi => cases hi
    | 2, hi => cases hi
    | 3, hi => cases hi
    | n + 4, hi => simp at hi

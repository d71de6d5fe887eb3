-- 04.logic: memory, layout, world, and the judgement P pc locals stack layout memory
abbrev Mem : Type := (Nat → Nat → Int32) × (Nat → Nat → Int64) × (Nat → Nat → Option Nat)
abbrev Lay : Type := (FieldType × Nat) ⊕ (Nat × List (Option Nat))
/-- classes' numbers, array classes, the heap as it was at the law's entry, what stands there (String constants and their bytes, a static of the library, the script), the script's length and values -/
abbrev GG : Type := va_G × (FieldType → ClassId) × Heap × (Nat → Value) × Nat × (Nat → Int32)
abbrev MI : Type := MethodName × ByteArray × Nat × Option FieldType × Nat
def gB (g : GG) : Nat := g.2.2.1.size
def rv (g : GG) (o : Option Nat) : Value := match o with
  | some r => .ref (gB g + r)
  | none => .null
def svO (v : Value) : Value := match v with
  | .ref a => .ref a
  | _ => .null
def cv (g : GG) (v : Value) : Value := match v with
  | .ref a => .ref (gB g + a)
  | .retAddr n => svO (g.2.2.2.1 n)
  | v => v
/-- what a field holds: a final reference stands in the layout, all else in the memory -/
def fv (g : GG) (M : Mem) (rf : List (Option Nat)) (id k : Nat) (fin : Bool) (ty : FieldType) : Value := match ty with
  | .long => .long (M.2.1 id k)
  | .object _ => rv g (if fin then rf.getD k none else M.2.2 id k)
  | .array _ => rv g (if fin then rf.getD k none else M.2.2 id k)
  | _ => .int (M.1 id k)
def clF (ci k : Nat) : Bool := match vwCl[ci]? with
  | some q => (q.2.1 k).2.2.2
  | none => false
def fsOf (g : GG) (M : Mem) (rf : List (Option Nat)) (id ci : Nat) : List Value := (List.range (clN ci)).map (fun k => fv g M rf id k (clF ci k) (clTy ci k))
def arOf (M : Mem) (id : Nat) (ty : FieldType) (n : Nat) : vp_A := match ty with
  | .long => (n, .inr (.inl (M.2.1 id)))
  | _ => (n, .inl (M.1 id))
def cellE (g : GG) (M : Mem) (id : Nat) (l : Lay) : va_E := match l with
  | .inl q => .inl (g.2.1 q.1, arOf M id q.1 q.2)
  | .inr q => .inr (q.1, fsOf g M q.2 id q.1)
def wsOf (g : GG) (L : List Lay) (M : Mem) : va_W := L.mapIdx (fun id l => (gB g + id, cellE g M id l))
def szY (l : Lay) : Nat := match l with
  | .inl q => q.2
  | .inr q => clN q.1
def szL (L : List Lay) : Nat := (L.map szY).sum
def Wo (g : GG) (L : List Lay) (M : Mem) (H : Heap) : Prop := H.size = gB g + L.length ∧ (∀ q : Nat, q < gB g → H[q]? = g.2.2.1[q]?) ∧ va_P g.1 vwCl (wsOf g L M) H
def sI (M : Mem) (id k : Nat) (x : Int32) : Mem := (fun a => if a = id then upd (M.1 a) k x else M.1 a, M.2)
def sJ (M : Mem) (id k : Nat) (x : Int64) : Mem := (M.1, fun a => if a = id then vp_updL (M.2.1 a) k x else M.2.1 a, M.2.2)
def sR (M : Mem) (id k : Nat) (x : Option Nat) : Mem := (M.1, M.2.1, fun a => if a = id then (fun j => if j = k then x else M.2.2 a j) else M.2.2 a)
theorem ws_at {g : GG} {L : List Lay} {M : Mem} {id : Nat} {l : Lay} (h : L[id]? = some l) : (wsOf g L M)[id]? = some (gB g + id, cellE g M id l) := by
  simp [wsOf, List.getElem?_mapIdx, h]
theorem ws_inv {g : GG} {L : List Lay} {M : Mem} {k : Nat} {q : Nat × va_E} (h : (wsOf g L M)[k]? = some q) : ∃ l, L[k]? = some l ∧ q = (gB g + k, cellE g M k l) := by
  simp only [wsOf, List.getElem?_mapIdx] at h
  cases hl : L[k]? with
  | none => rw [hl] at h; cases h
  | some l => rw [hl] at h; exact ⟨l, rfl, (Option.some.inj h).symm⟩
theorem ws_D (g : GG) (L : List Lay) (M : Mem) : va_D (fun q => gB g ≤ q) (wsOf g L M) := by
  refine ⟨fun i j p q hi hj e => ?_, fun k q hk => ?_⟩
  · obtain ⟨l1, -, rfl⟩ := ws_inv hi
    obtain ⟨l2, -, rfl⟩ := ws_inv hj
    exact Nat.add_left_cancel e
  · obtain ⟨l1, -, rfl⟩ := ws_inv hk
    exact Nat.le_add_right _ _
theorem ws_set {g : GG} {L : List Lay} {M M' : Mem} {id : Nat} {l : Lay} (h : L[id]? = some l) (ho : ∀ k, k ≠ id → ∀ y, cellE g M' k y = cellE g M k y) {e : va_E} (he : cellE g M' id l = e) : (wsOf g L M).set id (gB g + id, e) = wsOf g L M' := by
  subst he
  have hlt : id < (wsOf g L M).length := by simp only [wsOf, List.length_mapIdx]; exact (List.getElem?_eq_some_iff.mp h).1
  apply List.ext_getElem?
  intro k
  by_cases hk : k = id
  · subst hk
    rw [List.getElem?_set_self hlt, ws_at h]
  · rw [List.getElem?_set_ne (Ne.symm hk)]
    simp only [wsOf, List.getElem?_mapIdx]
    cases L[k]? with
    | none => rfl
    | some y => simp only [Option.map_some]; rw [ho k hk y]
-- the words that stay true
def okW (w : Cond) : Bool := match w with
  | .methodLinkNest .. => true
  | w => goodWord w
def AllW (U : State) : Prop := ∀ w ∈ lw_tbl, okW w = true → w.before #[] U = true
theorem okW.warm {s U : State} (hW : s.WarmedH U.vm) {w : Cond} (hk : okW w = true) {a a' : Array Value} (h : w.before a s = true) : w.before a' U = true := by
  unfold okW at hk
  split at hk
  · exact va_Nw.use rfl (va_Nw.warmM hW (va_Nw.of rfl h))
  · exact word_at hW (good_of_word hk) h
theorem AllW.warm {s U : State} (hW : s.WarmedH U.vm) (h : AllW s) : AllW U := fun w hw hk => okW.warm hW hk (h w hw hk)
theorem AllW.at {s : State} (h : AllW s) {w : Cond} (hw : w ∈ lw_tbl) (hk : okW w = true) {a : Array Value} : w.before a s = true := okW.warm (State.WarmedH.refl s) hk (h w hw hk)
def gT (g : GG) : List (ClassId × FieldType) := [(g.2.1 .int, .int), (g.2.1 .long, .long), (g.2.1 .byte, .byte), (g.2.1 .boolean, .boolean)]
def txQ : String := "corner street young word lighter glows wears cools leaves draught seed if then else heat age temper worn since hour glow which told "
def txS : String := ";=+-*/<()"
def byQ : List Int32 := [99, 111, 114, 110, 101, 114, 32, 115, 116, 114, 101, 101, 116, 32, 121, 111, 117, 110, 103, 32, 119, 111, 114, 100, 32, 108, 105, 103, 104, 116, 101, 114, 32, 103, 108, 111, 119, 115, 32, 119, 101, 97, 114, 115, 32, 99, 111, 111, 108, 115, 32, 108, 101, 97, 118, 101, 115, 32, 100, 114, 97, 117, 103, 104, 116, 32, 115, 101, 101, 100, 32, 105, 102, 32, 116, 104, 101, 110, 32, 101, 108, 115, 101, 32, 104, 101, 97, 116, 32, 97, 103, 101, 32, 116, 101, 109, 112, 101, 114, 32, 119, 111, 114, 110, 32, 115, 105, 110, 99, 101, 32, 104, 111, 117, 114, 32, 103, 108, 111, 119, 32, 119, 104, 105, 99, 104, 32, 116, 111, 108, 100, 32]
def byS : List Int32 := [59, 61, 43, 45, 42, 47, 60, 40, 41]
/-- a String constant: its object at a, its bytes at b -/
def strAt (a b : Nat) (by_ : List Int32) (A : Nat → Prop) (U : State) (H : Heap) : Prop := va_O "java/lang/String" a A U H ∧ va_OF "java/lang/String" "coder" "B" (.int 0) a A U H ∧ va_OF "java/lang/String" "value" "[B" (.ref b) a A U H ∧ va_T .byte b by_.length (fun j => .int (by_.getD j 0)) A U H
def SX (g : GG) (U : State) : Prop :=
  (∃ a b : Nat, g.2.2.2.1 0 = .ref a ∧ g.2.2.2.1 1 = .ref b ∧ strAt a b byQ (fun q => gB g ≤ q) U g.2.2.1 ∧ vk_R "BlushLamps$Tokens" 25 txQ a U) ∧
  (∃ a b : Nat, g.2.2.2.1 2 = .ref a ∧ g.2.2.2.1 3 = .ref b ∧ strAt a b byS (fun q => gB g ≤ q) U g.2.2.1 ∧ vk_R "BlushLamps$Tokens" 68 txS a U) ∧
  va_Z "java/lang/String" "COMPACT_STRINGS" "Z" (.int 1) (fun q => gB g ≤ q) U g.2.2.1 ∧
  (∃ v : Value, va_Z "jdk/internal/util/Preconditions" "SIOOBE_FORMATTER" "Ljava/util/function/BiFunction;" v (fun q => gB g ≤ q) U g.2.2.1 ∧ svO (g.2.2.2.1 4) = v) ∧
  ∃ b : Nat, g.2.2.2.1 9 = .ref b ∧ b < gB g ∧ va_X b g.2.2.2.2.1 g.2.2.2.2.2 U g.2.2.1
theorem strAt.moved {a b : Nat} {by_ : List Int32} {A : Nat → Prop} {u U : State} {H : Heap} (hvm : u.vm.Alike U.vm) (h : strAt a b by_ A u H) : strAt a b by_ A U H := ⟨va_O.moved hvm h.1, va_OF.moved hvm h.2.1, va_OF.moved hvm h.2.2.1, va_T.moved hvm h.2.2.2⟩
theorem SX.warm {g : GG} {s U : State} (hW : s.WarmedH U.vm) (h : SX g s) : SX g U := by
  obtain ⟨⟨a, b, h1, h2, h3, h4⟩, ⟨a', b', h5, h6, h7, h8⟩, h9, ⟨v, h10, h11⟩, ⟨c, h12, h13, h14⟩⟩ := h
  exact ⟨⟨a, b, h1, h2, h3.moved hW.alike, h4.warm hW⟩, ⟨a', b', h5, h6, h7.moved hW.alike, h8.warm hW⟩, h9.moved hW.alike, ⟨v, h10.moved hW.alike, h11⟩, ⟨c, h12, h13, h14.moved hW.alike⟩⟩
def KK (g : GG) (U : State) : Prop := va_K g.1 vwCl (gT g) U ∧ AllW U ∧ SX g U
theorem KK.warm {g : GG} {s U : State} (hW : s.WarmedH U.vm) (h : KK g s) : KK g U := ⟨h.1.moved hW.alike, h.2.1.warm hW, h.2.2.warm hW⟩
theorem KK.at {g : GG} {s : State} (h : KK g s) {w : Cond} (hw : w ∈ lw_tbl) (hk : okW w = true) {a : Array Value} : w.before a s = true := h.2.1.at hw hk
theorem KK.calling {g : GG} {U : State} {f : JFrame} {mk : MethodId} {a : Array Value} (h : KK g U) : KK g (U.calling f mk a) := KK.warm (s := U) (U := U.calling f mk a) (State.WarmedH.refl U) h
-- locals
def clr (o : Option Value) : Option Value := match o with
  | some (.long _) => none
  | some (.double _) => none
  | o => o
def st1 : List (Option Value) → Nat → Value → List (Option Value)
  | [], _, _ => []
  | _ :: l, 0, v => some v :: l
  | o :: l, 1, v => clr o :: st1 l 0 v
  | o :: l, n + 2, v => o :: st1 l (n + 1) v
def st2 : List (Option Value) → Nat → Value → List (Option Value)
  | [], _, _ => []
  | _ :: [], 0, _ => []
  | _ :: _ :: l, 0, v => some v :: none :: l
  | o :: l, 1, v => clr o :: st2 l 0 v
  | o :: l, n + 2, v => o :: st2 l (n + 1) v
def LV (g : GG) (lsA : Array Slot) (nL : Nat) (ls : List (Option Value)) : Prop := lsA.size = nL ∧ lv_wf lsA ∧ ∀ (i : Nat) (v : Value), ls[i]? = some (some v) → lsA[i]? = some (.val (cv g v))
def asc (g : GG) (ls : List (Option Value)) : List (Nat × Value) := (List.range ls.length).filterMap (fun i => match ls[i]? with
  | some (some v) => some (i, cv g v)
  | _ => none)
theorem asc_mem {g : GG} {ls : List (Option Value)} {q : Nat × Value} : q ∈ asc g ls ↔ ∃ v, ls[q.1]? = some (some v) ∧ q.2 = cv g v := by
  constructor
  · intro h
    obtain ⟨i, -, hi⟩ := List.mem_filterMap.mp h
    split at hi
    · next v hv => cases hi; exact ⟨v, hv, rfl⟩
    · cases hi
  · rintro ⟨v, hv, he⟩
    obtain ⟨i, w⟩ := q
    dsimp only at hv he
    subst he
    refine List.mem_filterMap.mpr ⟨i, List.mem_range.mpr (List.getElem?_eq_some_iff.mp hv).1, ?_⟩
    rw [hv]
theorem LV.has {g : GG} {lsA : Array Slot} {nL : Nat} {ls : List (Option Value)} (h : LV g lsA nL ls) : lv_has lsA nL (asc g ls) := ⟨h.1, h.2.1, fun q hq => by
  obtain ⟨v, h1, h2⟩ := asc_mem.mp hq
  rw [h2]
  exact h.2.2 q.1 v h1⟩
theorem clr_cat {o : Option Value} {w : Value} (h : clr o = some w) : o = some w ∧ w.category = 1 := by
  unfold clr at h
  split at h
  · cases h
  · cases h
  · next h1 h2 =>
    subst h
    refine ⟨rfl, ?_⟩
    cases w <;> first | rfl | exact absurd rfl (h1 _) | exact absurd rfl (h2 _)
theorem st1_at : ∀ (ls : List (Option Value)) (i : Nat) (v : Value) (j : Nat) (w : Value), (st1 ls i v)[j]? = some (some w) → (j = i ∧ w = v) ∨ (j ≠ i ∧ ls[j]? = some (some w) ∧ (j + 1 = i → w.category = 1))
  | [], i, v, j, w, h => by simp [st1] at h
  | o :: l, 0, v, j, w, h => by
    cases j with
    | zero => simp [st1] at h; exact Or.inl ⟨rfl, h.symm⟩
    | succ j => simp [st1] at h; exact Or.inr ⟨by omega, by simpa using h, by omega⟩
  | o :: l, 1, v, j, w, h => by
    cases j with
    | zero =>
      simp [st1] at h
      obtain ⟨h1, h2⟩ := clr_cat h
      exact Or.inr ⟨by omega, by simp [h1], fun _ => h2⟩
    | succ j =>
      simp [st1] at h
      rcases st1_at l 0 v j w h with ⟨h1, h2⟩ | ⟨h1, h2, h3⟩
      · exact Or.inl ⟨by omega, h2⟩
      · exact Or.inr ⟨by omega, by simpa using h2, fun e => h3 (by omega)⟩
  | o :: l, n + 2, v, j, w, h => by
    cases j with
    | zero => simp [st1] at h; exact Or.inr ⟨by omega, by simp [h], by omega⟩
    | succ j =>
      simp [st1] at h
      rcases st1_at l (n + 1) v j w h with ⟨h1, h2⟩ | ⟨h1, h2, h3⟩
      · exact Or.inl ⟨by omega, h2⟩
      · exact Or.inr ⟨by omega, by simpa using h2, fun e => h3 (by omega)⟩
theorem st2_at : ∀ (ls : List (Option Value)) (i : Nat) (v : Value) (j : Nat) (w : Value), (st2 ls i v)[j]? = some (some w) → (j = i ∧ w = v) ∨ (j ≠ i ∧ j ≠ i + 1 ∧ ls[j]? = some (some w) ∧ (j + 1 = i → w.category = 1))
  | [], i, v, j, w, h => by simp [st2] at h
  | [o], 0, v, j, w, h => by simp [st2] at h
  | o :: o2 :: l, 0, v, j, w, h => by
    match j, h with
    | 0, h => simp [st2] at h; exact Or.inl ⟨rfl, h.symm⟩
    | 1, h => simp [st2] at h
    | j + 2, h => simp [st2] at h; exact Or.inr ⟨by omega, by omega, by simpa using h, by omega⟩
  | o :: l, 1, v, j, w, h => by
    cases j with
    | zero =>
      simp [st2] at h
      obtain ⟨h1, h2⟩ := clr_cat h
      exact Or.inr ⟨by omega, by omega, by simp [h1], fun _ => h2⟩
    | succ j =>
      simp [st2] at h
      rcases st2_at l 0 v j w h with ⟨h1, h2⟩ | ⟨h1, h1', h2, h3⟩
      · exact Or.inl ⟨by omega, h2⟩
      · exact Or.inr ⟨by omega, by omega, by simpa using h2, fun e => h3 (by omega)⟩
  | o :: l, n + 2, v, j, w, h => by
    cases j with
    | zero => simp [st2] at h; exact Or.inr ⟨by omega, by omega, by simp [h], by omega⟩
    | succ j =>
      simp [st2] at h
      rcases st2_at l (n + 1) v j w h with ⟨h1, h2⟩ | ⟨h1, h1', h2, h3⟩
      · exact Or.inl ⟨by omega, h2⟩
      · exact Or.inr ⟨by omega, by omega, by simpa using h2, fun e => h3 (by omega)⟩
theorem cv_cat (g : GG) (v : Value) : (cv g v).category = v.category := by
  cases v <;> try rfl
  show (svO _).category = 1
  unfold svO
  split <;> rfl
theorem LV.st1 {g : GG} {lsA : Array Slot} {nL i : Nat} {ls : List (Option Value)} {v : Value} {w : Value} (hw : w = cv g v) (h : lv_has lsA nL ((i, w) :: (asc g ls).filter (fun q => !(q.1 == i) && !(q.1 + 1 == i && q.2.category == 2)))) : LV g lsA nL (st1 ls i v) := by
  subst hw
  refine ⟨h.1, h.2.1, fun j w hj => ?_⟩
  rcases st1_at ls i v j w hj with ⟨h1, h2⟩ | ⟨h1, h2, h3⟩
  · subst h1; subst h2
    exact h.2.2 (j, cv g w) List.mem_cons_self
  · refine h.2.2 (j, cv g w) (List.mem_cons_of_mem _ (List.mem_filter.mpr ⟨asc_mem.mpr ⟨w, h2, rfl⟩, ?_⟩))
    simp only [Bool.and_eq_true, Bool.not_eq_true', beq_eq_false_iff_ne, Bool.and_eq_false_iff, cv_cat]
    refine ⟨h1, ?_⟩
    by_cases e : j + 1 = i
    · exact Or.inr (by rw [h3 e]; decide)
    · exact Or.inl e
theorem LV.st2 {g : GG} {lsA : Array Slot} {nL i : Nat} {ls : List (Option Value)} {v : Value} {w : Value} (hw : w = cv g v) (h : lv_has lsA nL ((i, w) :: (asc g ls).filter (fun q => !(q.1 == i) && (!(q.1 == i + 1) && !(q.1 + 1 == i && q.2.category == 2))))) : LV g lsA nL (st2 ls i v) := by
  subst hw
  refine ⟨h.1, h.2.1, fun j w hj => ?_⟩
  rcases st2_at ls i v j w hj with ⟨h1, h2⟩ | ⟨h1, h1', h2, h3⟩
  · subst h1; subst h2
    exact h.2.2 (j, cv g w) List.mem_cons_self
  · refine h.2.2 (j, cv g w) (List.mem_cons_of_mem _ (List.mem_filter.mpr ⟨asc_mem.mpr ⟨w, h2, rfl⟩, ?_⟩))
    simp only [Bool.and_eq_true, Bool.not_eq_true', beq_eq_false_iff_ne, Bool.and_eq_false_iff, cv_cat]
    refine ⟨h1, h1', ?_⟩
    by_cases e : j + 1 = i
    · exact Or.inr (by rw [h3 e]; decide)
    · exact Or.inl e
-- the judgement
abbrev PT : Type := Nat → List (Option Value) → List Value → List Lay → Mem → Prop
abbrev RS : Type := Option Value × List Lay × Mem
def Wx (g : GG) (nL n0 z0 : Nat) (p : Program) (l : Launch) (e : Env) (R : Room) (s : State) (m : MethodId) (args : Array Value) (below : List Frame) (meth : Method) (c : Code) (Q : State → Prop) : PT := fun pc ls st L M =>
  ∀ (H : Heap) (locs : List Loc) (lsA : Array Slot), Wo g L M H → (∀ q ∈ locs, gB g ≤ q.base) → LV g lsA nL ls → n0 ≤ L.length → z0 ≤ szL L → W p l e R s m args below meth c H locs (L.length - n0) (szL L - z0) Q (F0 m pc lsA (st.map (cv g)))
def Qq (g : GG) (r : RS) : Array Value → State → Outcome → State → Prop := fun _ _ o t => o = .returned (r.1.map (cv g)) ∧ Wo g r.2.1 r.2.2 t.heap
def Pq (g : GG) (as : List Value) (L : List Lay) (M : Mem) : Array Value → State → Prop := fun v U => v = (as.map (cv g)).toArray ∧ Wo g L M U.heap ∧ KK g U
def IsW (g : GG) (i : MI) (d nc ns : Nat) (res : Option RS) (P : PT) : Prop :=
  ∃ (p : Program) (l : Launch) (e : Env) (R : Room) (s : State) (m : MethodId) (args : Array Value) (below : List Frame) (meth : Method) (c : Code) (Q : State → Prop) (n0 z0 : Nat),
    P = Wx g i.2.2.1 n0 z0 p l e R s m args below meth c Q ∧ p.tables.exec = Jvm.exec ∧ c.code = i.2.1 ∧ c.maxLocals = i.2.2.1 ∧ s.vm.findClass i.1.cls = some m.cls ∧ KK g s ∧ (d ≤ R.frames ∧ 30 * d ≤ R.locals ∧ nc ≤ R.cells + n0 ∧ ns ≤ R.slots + z0) ∧ meth.locks = false ∧ (i.1.name = "<init>" → meth.name = "<init>") ∧ (s.heap.size = gB g + n0 ∧ ∀ q : Nat, q < gB g → s.heap[q]? = g.2.2.1[q]?) ∧
    ∀ r : RS, res = some r → meth.sig.returnType = i.2.2.2.1 ∧ Q = MQ below (Qq g r) args s (r.2.1.length - n0) (szL r.2.1 - z0) (fun q => gB g ≤ q)
def ExM (g : GG) (d : Nat) (i : MI) (as : List Value) (L : List Lay) (M : Mem) (r : RS) : Prop := L.length ≤ r.2.1.length ∧ szL L ≤ szL r.2.1 ∧ ∀ l : Launch,
  Met l i.1 [.code i.1 i.2.1 i.2.2.1 i.2.2.2.1] { frames := d, cells := r.2.1.length - L.length, slots := szL r.2.1 - szL L, locals := 30 * d } (Pq g as L M) (Qq g r) (r.2.1.length - L.length) (szL r.2.1 - szL L) (fun q => gB g ≤ q)
def mIK (i : MI) : Prop := mOK i.1 i.2.1 i.2.2.1 i.2.2.2.1 i.2.2.2.2
-- a method's entry
def entL : List Value → List (Option Value)
  | [] => []
  | .long x :: l => some (.long x) :: none :: entL l
  | .double x :: l => some (.double x) :: none :: entL l
  | v :: l => some v :: entL l
def ent (as : List Value) (nL : Nat) : List (Option Value) := entL as ++ List.replicate (nL - (entL as).length) none
theorem entL_mem (g : GG) : ∀ (as : List Value) (off i : Nat) (v : Value), (entL as)[i]? = some (some v) → (off + i, cv g v) ∈ lv_args off (as.map (cv g))
  | [], off, i, v, h => by simp [entL] at h
  | a :: l, off, i, v, h => by
    have key : ∀ (k : Nat), (lv_args (off + k) (l.map (cv g)) = lv_args (if (cv g a).category = 2 then off + 2 else off + 1) (l.map (cv g))) → (i = 0 ∧ v = a) ∨ (∃ j, i = j + k ∧ (entL l)[j]? = some (some v)) → (off + i, cv g v) ∈ lv_args off ((a :: l).map (cv g)) := by
      intro k hk hh
      show (off + i, cv g v) ∈ (off, cv g a) :: lv_args (if (cv g a).category = 2 then off + 2 else off + 1) (l.map (cv g))
      rw [← hk]
      rcases hh with ⟨rfl, rfl⟩ | ⟨j, rfl, hj⟩
      · exact List.mem_cons_self
      · have := entL_mem g l (off + k) j v hj
        rw [show off + (j + k) = off + k + j by omega]
        exact List.mem_cons_of_mem _ this
    cases a
    case long x =>
      refine key 2 rfl ?_
      match i, h with
      | 0, h => simp [entL] at h; exact Or.inl ⟨rfl, h.symm⟩
      | 1, h => simp [entL] at h
      | j + 2, h => simp [entL] at h; exact Or.inr ⟨j, rfl, h⟩
    case double x =>
      refine key 2 rfl ?_
      match i, h with
      | 0, h => simp [entL] at h; exact Or.inl ⟨rfl, h.symm⟩
      | 1, h => simp [entL] at h
      | j + 2, h => simp [entL] at h; exact Or.inr ⟨j, rfl, h⟩
    all_goals
      refine key 1 (by rw [cv_cat]; rfl) ?_
      cases i with
      | zero => simp [entL] at h; exact Or.inl ⟨rfl, h.symm⟩
      | succ j => simp [entL] at h; exact Or.inr ⟨j, rfl, h⟩
theorem entL_len (g : GG) : ∀ (as : List Value), (lg_sl (as.map (cv g))).length = (entL as).length
  | [] => rfl
  | a :: l => by
    have h := entL_len g l
    show ((if (cv g a).category = 2 then [Slot.val (cv g a), Slot.second] else [Slot.val (cv g a)]) ++ lg_sl (l.map (cv g))).length = _
    rw [List.length_append, h]
    rw [cv_cat]
    cases a <;> simp [entL, Value.category] <;> omega
theorem ExM.of {g : GG} {d : Nat} {i : MI} {as : List Value} {L : List Lay} {M : Mem} {r : RS} (hp : plainName i.1.cls = true) (hl : L.length ≤ r.2.1.length) (hz : szL L ≤ szL r.2.1) (hn : (entL as).length ≤ i.2.2.1)
    (body : ∀ P : PT, IsW g i d r.2.1.length (szL r.2.1) (some r) P → P 0 (ent as i.2.2.1) [] L M) : ExM g d i as L M r := by
  refine ⟨hl, hz, fun l => ?_⟩
  refine Met.ofW (cc := i.2.1) (maxL := i.2.2.1) (ret := i.2.2.2.1) hp rfl ?_
  intro p e s m args below meth c s₁ B hml hv
  obtain ⟨rfl, hWo, hK⟩ := hv
  have hown : s.vm.findClass i.1.cls = some m.cls := findClass_of_methodNamed B.named
  have hlv : LV g ((lg_sl (as.map (cv g)) ++ List.replicate (i.2.2.1 - (lg_sl (as.map (cv g))).length) Slot.unset).toArray) i.2.2.1 (ent as i.2.2.1) := by
    have h0 := lv_entry (as.map (cv g)) (n := i.2.2.1) (by rw [entL_len]; exact hn)
    refine ⟨h0.1, h0.2.1, fun j v hj => ?_⟩
    unfold ent at hj
    by_cases hjl : j < (entL as).length
    · rw [List.getElem?_append_left hjl] at hj
      have := entL_mem g as 0 j v hj
      rw [Nat.zero_add] at this
      exact h0.2.2 _ this
    · rw [List.getElem?_append_right (by omega)] at hj
      have := List.eq_of_mem_replicate (List.mem_of_getElem? hj)
      cases this
  have h := body (Wx g i.2.2.1 L.length (szL L) p l e ({ frames := d, cells := r.2.1.length - L.length, slots := szL r.2.1 - szL L, locals := 30 * d } : Room) s m (as.map (cv g)).toArray below meth c (MQ below (Qq g r) (as.map (cv g)).toArray s (r.2.1.length - L.length) (szL r.2.1 - szL L) (fun q => gB g ≤ q)))
    ⟨p, l, e, ({ frames := d, cells := r.2.1.length - L.length, slots := szL r.2.1 - szL L, locals := 30 * d } : Room), s, m, (as.map (cv g)).toArray, below, meth, c, (MQ below (Qq g r) (as.map (cv g)).toArray s (r.2.1.length - L.length) (szL r.2.1 - szL L) (fun q => gB g ≤ q)), L.length, szL L, rfl, B.exec, B.bytes, hml, hown, hK, ⟨Nat.le_refl _, Nat.le_refl _, (by show r.2.1.length ≤ (r.2.1.length - L.length) + L.length; omega), (by show szL r.2.1 ≤ (szL r.2.1 - szL L) + szL L; omega)⟩, B.notSynchronized, (fun h => (name_of_methodNamed B.named B.method).1.trans h), ⟨hWo.1, hWo.2.1⟩, fun r' hr' => by cases hr'; exact ⟨B.returns, rfl⟩⟩
  rw [lg_entry_eq]
  have h2 := h s.heap [] _ hWo (fun q h => by cases h) hlv (Nat.le_refl _) (Nat.le_refl _)
  rw [Nat.sub_self, Nat.sub_self] at h2
  exact h2

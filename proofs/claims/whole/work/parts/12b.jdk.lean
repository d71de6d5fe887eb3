-- by program: wip/whole/gen/build_parts.py
def f_J7_fill_53178_L5 (a0 : Nat) (n0 : Nat) : Nat → Int32 → Int32 → Int32 → Mem → Option (Mem)
  | 0, _, _, _, _ => none
  | fu + 1, l1, l2, l3, M =>
    if l3 ≤ l2 then
      some M
    else
      (pg M a0 n0 l2 l1).bind fun M3 =>
      lt (l2 + 1 : Int32) fun v4 =>
      f_J7_fill_53178_L5 a0 n0 fu l1 v4 l3 M3
def f_J7_fill_53178 (a0 : Nat) (n0 : Nat) (x1 : Int32) (M : Mem) : Option (Mem) :=
  lt (Int32.ofNat n0 : Int32) fun v1 =>
  (f_J7_fill_53178_L5 a0 n0 FU x1 (0 : Int32) v1 M).bind fun t5 =>
  some t5
set_option maxHeartbeats 1000000 in
set_option maxRecDepth 20000 in
theorem t_J7_fill_53178_L5 {g : GG} {d : Nat} {P : PT} {res : Option RS} (hd : 1 ≤ d) {a0 : Nat} {n0 : Nat} (ha0 : LAY[a0]? = some (.inl (.int, n0))) (hP : IsM g iJ7_fill_53178 d res P) : ∀ (fu : Nat) (l1 : Int32) (l2 : Int32) (l3 : Int32) (M : Mem) (t : Mem), f_J7_fill_53178_L5 a0 n0 fu l1 l2 l3 M = some t → P 20 [none, none, none, none] [] LAY t → P 5 [some (.ref a0), some (.int l1), some (.int l2), some (.int l3)] [] LAY M := by
  have hd1 : 1 ≤ d := by omega
  intro fu
  induction fu with
  | zero => intro l1 l2 l3 M t hf; simp [f_J7_fill_53178_L5] at hf
  | succ fu ih =>
    intro l1 l2 l3 M t hf hx
    rw [f_J7_fill_53178_L5] at hf
    refine x_iload_n hP dJ7_fill_53178_5 rfl ?_
    refine x_iload_n hP dJ7_fill_53178_6 rfl ?_
    refine x_icmp_ge hP dJ7_fill_53178_7 (tgt := 20) (by decide) (fun c2 => ?_) (fun c2 => ?_)
    · replace hf := p_t c2 hf
      refine x_drop hP [none, none, none, none] trivial ?_
      cases hf
      exact hx
    · replace hf := p_f c2 hf
      refine x_aload_n hP dJ7_fill_53178_10 rfl ?_
      refine x_iload_n hP dJ7_fill_53178_11 rfl ?_
      refine x_iload_n hP dJ7_fill_53178_12 rfl ?_
      obtain ⟨M3, hiM3, hM3, hf⟩ := b_pg hf
      refine y_ast hP ha0 hiM3 hM3 dJ7_fill_53178_13 ?_
      obtain ⟨v4, hv4, hf⟩ := b_lt hf
      refine x_iinc hP (v := v4) (ls2 := [some (.ref a0), some (.int l1), some (.int v4), some (.int l3)]) dJ7_fill_53178_14 rfl (by rw [hv4]; rfl) rfl rfl ?_
      refine x_goto hP dJ7_fill_53178_17 (tgt := 5) (by decide) ?_
      refine x_drop hP [some (.ref a0), some (.int l1), some (.int v4), some (.int l3)] (And.intro rfl (And.intro rfl (And.intro rfl (And.intro rfl trivial)))) ?_
      exact ih _ _ _ _ _ hf hx
set_option maxHeartbeats 1000000 in
set_option maxRecDepth 20000 in
theorem t_J7_fill_53178 {g : GG} {d : Nat} (hd : 1 ≤ d) {a0 : Nat} {n0 : Nat} (ha0 : LAY[a0]? = some (.inl (.int, n0))) {x1 : Int32} {M : Mem} {M' : Mem} (hf : f_J7_fill_53178 a0 n0 x1 M = some M') : ExM g d iJ7_fill_53178 [.ref a0, .int x1] LAY M (none, LAY, M') := by
  have hd1 : 1 ≤ d := by omega
  refine ExM.main pnJ7 rfl (ls := [some (.ref a0), some (.int x1), none, none]) rfl ?_
  intro P hP
  rw [f_J7_fill_53178] at hf
  refine x_iconst hP dJ7_fill_53178_0 (v := 0) rfl ?_
  refine x_istore_n hP (ls2 := [some (.ref a0), some (.int x1), some (.int (0 : Int32)), none]) dJ7_fill_53178_1 rfl rfl rfl ?_
  refine x_aload_n hP dJ7_fill_53178_2 rfl ?_
  refine y_alen hP ha0 (v := Int32.ofNat n0) rfl dJ7_fill_53178_3 ?_
  obtain ⟨v1, hv1, hf⟩ := b_lt hf
  refine y_nmI hv1 ?_
  refine x_istore_n hP (ls2 := [some (.ref a0), some (.int x1), some (.int (0 : Int32)), some (.int v1)]) dJ7_fill_53178_4 rfl rfl rfl ?_
  refine x_drop hP [some (.ref a0), some (.int x1), some (.int (0 : Int32)), some (.int v1)] (And.intro rfl (And.intro rfl (And.intro rfl (And.intro rfl trivial)))) ?_
  obtain ⟨t5, hl6, hf⟩ := b_bd hf
  refine t_J7_fill_53178_L5 hd ha0 hP _ _ _ _ _ _ hl6 ?_
  cases hf
  exact x_vret hP rfl dJ7_fill_53178_20

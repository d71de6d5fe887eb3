-- 89v.rhead2: pure: how the reference begins to read, the rest
section HDS
variable {v : Nat} {M M' : Mem}
theorem nsdL {a k : Nat} (hv : v ≤ 1) (ha : a = 91 ∨ a = 92) (hk : k < 4) : ¬ sdR (1 - v) a (4 * v + k) := by
  unfold sdR lwR
  omega
theorem r_plain (hv : v ≤ 1) : ∃ M', f_X12_plain (nI v) M = some M' ∧ FR v M M' ∧ (∀ a, a = 77 ∨ a = 78 ∨ a = 82 ∨ a = 86 ∨ a = 88 ∨ a = 89 ∨ a = 90 → M'.1 a v = 0) ∧ (∀ k, k < 4 → M'.1 91 (4 * v + k) = 0 ∧ M'.1 92 (4 * v + k) = 0) ∧ (∀ a, a < 77 → M'.1 a = M.1 a) ∧ M'.2 = M.2 := by
  let A := sI (sI (sI (sI (sI (sI (sI M 77 v 0) 78 v 0) 82 v 0) 86 v 0) 88 v 0) 89 v 0) 90 v 0
  have fA : FR v M A := ((((((FR.wr (by omega) (by omega) (nsd hv (by omega))).tr (FR.wr (by omega) (by omega) (nsd hv (by omega)))).tr (FR.wr (by omega) (by omega) (nsd hv (by omega)))).tr (FR.wr (by omega) (by omega) (nsd hv (by omega)))).tr (FR.wr (by omega) (by omega) (nsd hv (by omega)))).tr (FR.wr (by omega) (by omega) (nsd hv (by omega)))).tr (FR.wr (by omega) (by omega) (nsd hv (by omega)))
  have zA : ∀ a, a = 77 ∨ a = 78 ∨ a = 82 ∨ a = 86 ∨ a = 88 ∨ a = 89 ∨ a = 90 → A.1 a v = 0 := fun a h => by
    show (sI (sI (sI (sI (sI (sI (sI M 77 v 0) 78 v 0) 82 v 0) 86 v 0) 88 v 0) 89 v 0) 90 v 0).1 a v = 0
    rcases h with h | h | h | h | h | h | h <;> subst h <;> simp [sI1]
  have lA : ∀ a, a < 77 → A.1 a = M.1 a := fun a h => (sI_cell (by omega)).trans ((sI_cell (by omega)).trans ((sI_cell (by omega)).trans ((sI_cell (by omega)).trans ((sI_cell (by omega)).trans ((sI_cell (by omega)).trans (sI_cell (by omega)))))))
  obtain ⟨M', e', q1, q2, q3, q4⟩ := loopQ (fun fu y (s : Mem) => f_X12_plain_L51 fu (nI v) (nI y) s) (fun y s => FR v A s ∧ s.2 = A.2 ∧ (∀ a, a ≠ 91 → a ≠ 92 → s.1 a = A.1 a) ∧ ∀ k, k < y → s.1 91 (4 * v + k) = 0 ∧ s.1 92 (4 * v + k) = 0) (fun s => FR v A s ∧ s.2 = A.2 ∧ (∀ a, a ≠ 91 → a ≠ 92 → s.1 a = A.1 a) ∧ ∀ k, k < 4 → s.1 91 (4 * v + k) = 0 ∧ s.1 92 (4 * v + k) = 0) 4 (by omega) (fun fu s hP => by
      refine ⟨s, ?_, hP⟩
      show f_X12_plain_L51 (fu + 1) _ _ _ = _
      rw [f_X12_plain_L51, li 4, if_pos (nI_le (Nat.le_refl _) (by omega))]) (fun fu y s hy hP => by
      right
      obtain ⟨p1, p2, p3, p4⟩ := hP
      refine ⟨sI (sI s 91 (4 * v + y) 0) 92 (4 * v + y) 0, ?_, ?_, p2, fun a h1 h2 => (sI_cell h2).trans ((sI_cell h1).trans (p3 a h1 h2)), fun k hk => ?_⟩
      · show f_X12_plain_L51 (fu + 1) _ _ _ = f_X12_plain_L51 fu _ _ _
        rw [f_X12_plain_L51, li 4, if_neg (nI_ge hy (by omega)), ix_m, pg_n (by omega) (by omega), sb, pg_n (by omega) (by omega), sb, nI_1, lt_def]
      · exact (p1.tr (FR.wr (by omega) (by omega) (nsdL hv (Or.inl rfl) hy))).tr (FR.wr (by omega) (by omega) (nsdL hv (Or.inr rfl) hy))
      · by_cases e : k = y
        · subst e
          exact ⟨(congrFun (sI_cell (by decide)) _).trans sI_same, sI_same⟩
        · have := p4 k (by omega)
          exact ⟨(congrFun (sI_cell (by decide)) _).trans ((sI_ix (by omega)).trans this.1), (sI_ix (by omega)).trans ((congrFun (sI_cell (by decide)) _).trans this.2)⟩) A ⟨⟨fun _ _ _ => rfl, fun _ _ => rfl, fun _ _ _ => rfl, fun _ _ _ => rfl, rfl⟩, rfl, fun _ _ _ => rfl, fun k hk => absurd hk (by omega)⟩
  refine ⟨M', ?_, fA.tr q1, fun a h => ?_, q4, fun a h => (q3 a (by omega) (by omega)).trans (lA a h), q2⟩
  · unfold f_X12_plain
    rw [pg_n (by omega) (by omega), sb, pg_n (by omega) (by omega), sb, pg_n (by omega) (by omega), sb, pg_n (by omega) (by omega), sb, pg_n (by omega) (by omega), sb, pg_n (by omega) (by omega), sb, pg_n (by omega) (by omega), sb]
    show (f_X12_plain_L51 FU (nI v) 0 A).bind _ = _
    rw [show f_X12_plain_L51 FU (nI v) 0 A = some M' from e', sb]
  · rw [q3 a (by omega) (by omega)]
    exact zA a h
/-- what is left behind the head -/
def rTl (M20 : Mem) : Option (Int32 × Mem) :=
  (f_X12_read_L112 FU M20).bind fun t27 =>
  lt (
    if t27.1 67 13 ≤ 0 then
      if t27.1 67 15 ≤ 0 then
        (-1 : Int32)
      else
        t27.1 67 16
    else
      t27.1 67 14
   : Int32) fun t29 =>
  lt (sI t27 67 17 t29) fun M32 =>
  if M32.1 67 13 ≤ 0 then
    if M32.1 67 15 ≤ 0 then
      lt (sI M32 67 18 (M32.1 67 19)) fun M35 =>
      (f_X12_begins M35).bind fun M37 =>
      (f_X12_keepsRow M37).bind fun M39 =>
      lt (sI M39 67 60 (0 : Int32)) fun M40 =>
      lt (sI M40 67 66 (0 : Int32)) fun M41 =>
      (f_X12_read_L219 FU (0 : Int32) M41).bind fun t45 =>
      some ((0 : Int32), t45)
    else
      some (M32.1 67 15, M32)
  else
    some (M32.1 67 13, M32)
theorem r_start {v v' len : Nat} {b : Nat → Nat} {kw : Nat → Int64} (hv : v ≤ 1) (hv' : v' = 1 - v) (h18 : M.1 67 18 = nI v) (hl : len ≤ 2000) (h2 : M.1 67 2 = nI len) (hb : ∀ i, i < len → M.1 68 i &&& 255 = nI (b i) ∧ b i < 256) (hk : ∀ k, k < 23 → M.2.1 74 k = kw k) (hd : ∀ i j, i < j → j < 23 → kw i ≠ kw j) : ∃ M' E, f_X12_read M = rTl M' ∧ FR v' M M' ∧ E ≤ 400 ∧ TKM b len kw (E + 1) M' ∧ (E = 400 ∨ tK b len kw E = 0) ∧ M'.1 67 2 = 0 ∧ ∀ E', RI (stN b len) E' v' s00 M' := by
  have hFU : FU = 1000000 := rfl
  have hv1 : v' ≤ 1 := by omega
  let N1 := sI M 67 4 (nI len)
  have n1 : N1.1 67 4 = nI len := sI_same
  let N2 := wrM N1 69 0 (fun i => vp_nar .byte (N1.1 68 i)) len
  have e2 : f_X12_read_L10 FU 0 N1 = some N2 := r_cpy hl n1
  let N3 := sI N2 67 2 0
  let N4 := sI N3 67 10 0
  have B4 : BM b len N4 := by
    refine ⟨hl, ?_, fun i hi => ?_⟩
    · exact (sI_ix (by decide)).trans ((sI_ix (by decide)).trans ((congrFun (wr_cell (by decide)) 4).trans n1))
    · have e : N4.1 69 i = vp_nar .byte (M.1 68 i) := by
        have q := wr_at (M := N1) (a := 69) (l := 0) (n := len) (k := i) (B := fun i => vp_nar .byte (N1.1 68 i)) hi
        rw [Nat.zero_add] at q
        refine (congrFun (sI_cell (by decide)) i).trans ((congrFun (sI_cell (by decide)) i).trans (q.trans ?_))
        show vp_nar .byte (N1.1 68 i) = _
        rw [show N1.1 68 i = M.1 68 i from congrFun (sI_cell (by decide)) i]
      rw [e, nar255]
      exact hb i hi
  obtain ⟨N5, E, e5, f5, hE, T5, h5, h6⟩ := r_cuts (M0 := N3) (b := b) (len := len) (kw := kw) hd (2 * len + 401) FU 0 0 N4 (by omega) (by omega) (by omega) (by omega) B4 hk ⟨fun a _ _ _ p => sI_cell p, fun i p => sI_ix p, fun _ _ => rfl, rfl⟩ sI_same (fun j hj => absurd hj (by omega)) rfl (fun j hj => absurd hj (by omega))
  let N6 := sI (sI (sI (sI N5 67 11 0) 67 12 0) 67 13 0) 67 15 0
  have k18 : N6.1 67 18 = nI v := (sI_ix (by decide)).trans ((sI_ix (by decide)).trans ((sI_ix (by decide)).trans ((sI_ix (by decide)).trans ((f5.2.1 18 (by decide)).trans ((sI_ix (by decide)).trans ((congrFun (wr_cell (by decide)) 18).trans ((sI_ix (by decide)).trans h18)))))))
  let N7 := sI N6 67 19 (nI v')
  let N8 := sI N7 67 20 0
  have k19 : N8.1 67 19 = nI v' := (sI_ix (by decide)).trans sI_same
  obtain ⟨N9, e9, f9, z1, z2, z3, z4⟩ := r_plain (M := N8) hv1
  have j19 : N9.1 67 19 = nI v' := by rw [z3 67 (by decide)]; exact k19
  let N10 := sI N9 67 39 (nI (130 * v'))
  have m19 : N10.1 67 19 = nI v' := (sI_ix (by decide)).trans j19
  let N11 := sI N10 67 45 (nI (420 * v'))
  have fr : FR v' M N11 := (((((((((((((FR.fd (by decide)).tr FR.wm).tr (FR.fd (by decide))).tr f5.fr).tr (FR.fd (by decide))).tr (FR.fd (by decide))).tr (FR.fd (by decide))).tr (FR.fd (by decide))).tr (FR.fd (by decide))).tr (FR.fd (by decide))).tr f9).tr (FR.fd (by decide))).tr (FR.fd (by decide)))
  have c67 : ∀ i, i ≠ 39 → i ≠ 45 → N11.1 67 i = N8.1 67 i := fun i h h' => (sI_ix h').trans ((sI_ix h).trans (by rw [z3 67 (by decide)]))
  have ca : ∀ a, a ≠ 67 → N11.1 a = N9.1 a := fun a h => (sI_cell h).trans (sI_cell h)
  have cb : ∀ a, a ≠ 67 → a < 77 → N11.1 a = N5.1 a := fun a h h' => (ca a h).trans ((z3 a h').trans ((sI_cell h).trans ((sI_cell h).trans ((sI_cell h).trans ((sI_cell h).trans ((sI_cell h).trans (sI_cell h)))))))
  have c8 : ∀ i, i ≠ 20 → i ≠ 19 → N8.1 67 i = N6.1 67 i := fun i h h' => (sI_ix h).trans (sI_ix h')
  refine ⟨N11, E, ?_, fr, hE, ?_, h5, ?_, fun E' => ⟨130 * v', 420 * v', ⟨⟨?_, ?_, ?_, sI_same, (sI_ix (by decide)).trans sI_same⟩, ?_, ⟨?_, by decide, fun z => absurd rfl z⟩, ⟨?_, by decide, (fun j p h => by cases h)⟩, fun z => absurd rfl z, Nat.zero_le _, by show 420 * v' ≤ 420 * v' + 0; omega, Nat.le_refl _, Nat.le_refl _, by show 4 * (130 * v') ≤ 4 * (130 * v') + 0; omega⟩, ?_, fun _ => ?_, fun k hk => Or.inr ⟨?_, rfl, rfl⟩⟩⟩
  · unfold f_X12_read
    rw [h2, lt_def, show f_X12_read_L10 FU 0 (sI M 67 4 (nI len)) = some N2 from e2, sb, lt_def]
    have ec : f_X12_cutsUp (sI N2 67 2 0) = some N5 := by
      unfold f_X12_cutsUp
      rw [lt_def]
      exact e5
    rw [ec, sb, lt_def, lt_def, lt_def, lt_def, show (sI (sI (sI (sI N5 67 11 0) 67 12 0) 67 13 0) 67 15 0).1 67 18 = nI v from k18, show (1 : Int32) = nI 1 from rfl, sub_n2 hv, ← hv', lt_def, lt_def, show (sI (sI (sI (sI (sI (sI N5 67 11 0) 67 12 0) 67 13 0) 67 15 0) 67 19 (nI v')) 67 20 0).1 67 19 = nI v' from k19, show f_X12_plain (nI v') (sI (sI (sI (sI (sI (sI N5 67 11 0) 67 12 0) 67 13 0) 67 15 0) 67 19 (nI v')) 67 20 0) = some N9 from e9, sb, j19, show (130 : Int32) * nI v' = nI (130 * v') from (Int32.ofNat_mul 130 v').symm, lt_def, show (sI N9 67 39 (nI (130 * v'))).1 67 19 = nI v' from m19, show (420 : Int32) * nI v' = nI (420 * v') from (Int32.ofNat_mul 420 v').symm, lt_def]
    rfl
  · unfold TKM at T5 ⊢
    rw [cb 70 (by decide) (by decide), cb 71 (by decide) (by decide), cb 72 (by decide) (by decide)]
    have : N11.2.1 73 = N5.2.1 73 := by
      show N9.2.1 73 = _
      rw [z4]
      rfl
    rw [this]
    exact T5
  · exact (c67 2 (by decide) (by decide)).trans ((c8 2 (by decide) (by decide)).trans ((sI_ix (by decide)).trans ((sI_ix (by decide)).trans ((sI_ix (by decide)).trans ((sI_ix (by decide)).trans ((f5.2.1 2 (by decide)).trans sI_same))))))
  · exact (c67 13 (by decide) (by decide)).trans ((c8 13 (by decide) (by decide)).trans ((sI_ix (by decide)).trans sI_same))
  · exact (c67 11 (by decide) (by decide)).trans ((c8 11 (by decide) (by decide)).trans ((sI_ix (by decide)).trans ((sI_ix (by decide)).trans ((sI_ix (by decide)).trans sI_same))))
  · exact (c67 12 (by decide) (by decide)).trans ((c8 12 (by decide) (by decide)).trans ((sI_ix (by decide)).trans ((sI_ix (by decide)).trans sI_same)))
  · exact (c67 19 (by decide) (by decide)).trans k19
  · exact (c67 15 (by decide) (by decide)).trans ((c8 15 (by decide) (by decide)).trans sI_same)
  · exact (c67 20 (by decide) (by decide)).trans sI_same
  · exact ⟨(congrFun (ca 77 (by decide)) v').trans (z1 77 (by omega)), (congrFun (ca 78 (by decide)) v').trans (z1 78 (by omega)), (congrFun (ca 82 (by decide)) v').trans (z1 82 (by omega)), (congrFun (ca 86 (by decide)) v').trans (z1 86 (by omega))⟩
  · exact ⟨(congrFun (ca 88 (by decide)) v').trans (z1 88 (by omega)), (congrFun (ca 89 (by decide)) v').trans (z1 89 (by omega)), (congrFun (ca 90 (by decide)) v').trans (z1 90 (by omega)), fun s hs => absurd hs (show ¬ s < 0 by omega), fun y hy => absurd hy (show ¬ y < 0 by omega), fun u hu => absurd hu (show ¬ u < 0 by omega)⟩
  · rw [ca 91 (by decide), ca 92 (by decide), (z2 k hk).1, (z2 k hk).2]
end HDS

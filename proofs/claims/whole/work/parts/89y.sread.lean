-- 89y.sread: pure: READ
section SRD
variable {M : Mem}
/-- what is left behind the tells -/
def rT9 (t27 : Mem) : Option (Int32 × Mem) :=
  lt (
    if t27.1 67 13 ≤ 0 then
      if t27.1 67 15 ≤ 0 then
        (-1 : Int32)
      else
        t27.1 67 16
    else
      t27.1 67 14
   : Int32) fun t29 =>
  lt (sI t27 67 17 t29) fun M32 =>
  if M32.1 67 13 ≤ 0 then
    if M32.1 67 15 ≤ 0 then
      lt (sI M32 67 18 (M32.1 67 19)) fun M35 =>
      (f_X12_begins M35).bind fun M37 =>
      (f_X12_keepsRow M37).bind fun M39 =>
      lt (sI M39 67 60 (0 : Int32)) fun M40 =>
      lt (sI M40 67 66 (0 : Int32)) fun M41 =>
      (f_X12_read_L219 FU (0 : Int32) M41).bind fun t45 =>
      some ((0 : Int32), t45)
    else
      some (M32.1 67 15, M32)
  else
    some (M32.1 67 13, M32)
theorem r_go9 {v len E : Nat} {b : Nat → Nat} {kw : Nat → Int64} (hv : v ≤ 1) (h18 : M.1 67 18 = nI v) (hl : len ≤ 2000) (h2 : M.1 67 2 = nI len) (hb : ∀ i, i < len → M.1 68 i &&& 255 = nI (b i) ∧ b i < 256) (hk : ∀ k, k < 23 → M.2.1 74 k = kw k) (hd : ∀ i j, i < j → j < 23 → kw i ≠ kw j) (w : wfK (tK b len kw) (stN b len) (tV b len) E) (hne : ∀ j, j < E → tK b len kw j ≠ 0 ∧ tK b len kw j ≠ 3) : ∃ M', f_X12_read M = rT9 M' ∧ FR (1 - v) M M' ∧ M'.1 67 2 = 0 ∧ (∀ s', tlA (tK b len kw) (tV b len) (stN b len) (tN b len) 401 s00 = .ok s' → RI (stN b len) E (1 - v) s' M') ∧ ∀ x, tlA (tK b len kw) (tV b len) (stN b len) (tN b len) 401 s00 = .error x → DM x.1 (stN b len x.2) (1 - v) M' := by
  have hFU : FU = 1000000 := rfl
  obtain ⟨M1, E', e1, f1, hE', T1, h5, z2, I1⟩ := r_start hv rfl h18 hl h2 hb hk hd
  have T2 : tokM (tK b len kw) (stN b len) (tV b len) (tN b len) E M1 := T1.tok (cut_le w.1 hne h5)
  obtain ⟨M2, e2, f2, a1, a2⟩ := r_tells (v := 1 - v) (by omega) w (fun a ha => st_lt hl hne ha) (fun j hj => tV_le j hj) 401 FU s00 M1 (by show 401 ≤ 0 + 401; omega) (by omega) T2 (I1 E) wf_00
  refine ⟨M2, ?_, f1.tr f2.fr, ?_, a1, a2⟩
  · rw [e1]
    unfold rTl
    rw [e2, sb]
    rfl
  · rw [f2.2.1 2 (by decide)]
    exact z2
theorem s_read (R : Rel M) : OkB (f_X11_read M) f_X12_read := by
  obtain ⟨t, v, τ, ρ, F, R⟩ := R
  have R' := R
  obtain ⟨h1, h2, h3, h4, h5, h6, h7, h8, h9, h10, h11, h12, h13, h14, h15⟩ := R'
  have ht := h3.1
  have l8 := isT_le ht
  have hv := h4.1
  obtain ⟨len, hl, a1, a2, a3⟩ := h11
  have ht' : isT (12 - t) := by
    rcases ht with rfl | rfl
    · exact Or.inr rfl
    · exact Or.inl rfl
  have l8' := isT_le ht'
  have dis : ∀ a, t ≤ a ∧ a ≤ t + 9 → ¬ (12 - t ≤ a ∧ a ≤ 12 - t + 9) := fun a h => by
    rcases ht with rfl | rfl <;> omega
  obtain ⟨b, hb⟩ : ∃ b : Nat → Nat, ∀ i, b i < 256 ∧ M.1 22 i &&& 255 = nI (b i) := ⟨fun i => Classical.choose (b255 (M.1 22 i)), fun i => Classical.choose_spec (b255 (M.1 22 i))⟩
  have hB : BC b len M := ⟨hl, a1, fun i hi => ⟨(hb i).2, (hb i).1⟩⟩
  obtain ⟨x, M1, E, e1, f1, w, hne, O1, O2⟩ := c_readIn (kw := M.2.1 74) ht' hB h15.1 h15.2
  let M4 := sI M1 21 1 0
  let M5 := sI M4 0 11 (M1.1 23 0)
  have c5 : ∀ a, a ≠ 0 → a ≠ 21 → M5.1 a = M1.1 a := fun a p q => (sI_cell p).trans (sI_cell q)
  have c5M : ∀ a, a ≠ 0 → a ≠ 21 → a ≠ 23 → a ≠ 25 → a ≠ 26 → a ≠ 30 → ¬ (12 - t ≤ a ∧ a ≤ 12 - t + 9) → M5.1 a = M.1 a := fun a p q r s u z y => (c5 a p q).trans (f1.1 a r s u z y)
  have run : ∀ {A}, (if x = 0 then (f_X11_settle M5).bind fun M8 => some (x, M8) else some (x, M5)) = A → f_X11_read M = A := fun {A} h => by
    unfold f_X11_read
    rw [rT_n h7.2 ht', sb, e1, sb, lt_def, show (sI M1 21 1 0).1 23 0 = M1.1 23 0 from congrFun (sI_cell (by decide)) 0, lt_def]
    exact h
  have k11 : M5.1 0 11 = M1.1 23 0 := sI_same
  have k21 : M5.1 21 1 = 0 := (congrFun (sI_cell (by decide)) 1).trans sI_same
  -- the reference begins at a memory that has its cells as they were
  have go : ∀ Mc : Mem, Mc.1 67 = M.1 67 → Mc.1 68 = M.1 68 → Mc.2.1 74 = M.2.1 74 → _ := fun Mc q67 q68 q74 => r_go9 (M := Mc) (v := v) (len := len) (E := E) (b := b) (kw := M.2.1 74) hv (by rw [q67]; exact h4.2.1) hl (by rw [q67]; exact a2) (fun i hi => by rw [q68, ← a3 i hi]; exact ⟨(hb i).2, (hb i).1⟩) (fun k hk => by rw [q74]) h15.2 w hne
  have fault : ∀ {M27 : Mem} {p : Int32}, FR (1 - v) M5 M27 → M27.1 67 2 = 0 → M1.1 23 0 = p → Rel (sI M27 67 17 p) := fun {M27 p} f h2 hp => by
    have g : ∀ a, a ≠ 67 → (a < 69 ∨ 100 < a) → (sI M27 67 17 p).1 a = M5.1 a := fun a h h' => (sI_cell h).trans (f.1 a h h')
    refine rel_fault (M := M) R (fun a ha => ?_) (fun i hi => ?_) (fun a i hs => ?_) (fun a ha => ?_) (fun a ha => ?_) ?_ ?_ ?_
    · rw [g a (by omega) (by omega)]
      refine c5M a (by omega) (by omega) (by omega) (by omega) (by omega) (by omega) ?_
      rcases ha with h | h
      · exact dis a h
      · omega
    · rw [sI_ix (by omega), f.2.1 i (by rcases hi with h | h | h <;> subst h <;> decide)]
      exact congrFun (c5M 67 (by decide) (by decide) (by decide) (by decide) (by decide) (by decide) (by omega)) i
    · have := sdR_67 hs
      rw [congrFun (sI_cell (by omega)) i, f.2.2.1 a i (by rw [show 1 - (1 - v) = v by omega]; exact hs)]
      exact congrFun (c5M a (by omega) (by omega) (by omega) (by omega) (by omega) (by omega) (by omega)) i
    · show M27.2.1 a = M.2.1 a
      rw [f.2.2.2.1 a (by omega) (by omega)]
      exact f1.2.1 a (by omega) (by omega)
    · show M27.2.2 a = M.2.2 a
      rw [f.2.2.2.2]
      exact f1.2.2 a (by omega)
    · rw [g 21 (by decide) (by decide)]; exact k21
    · rw [sI_ix (by decide)]; exact h2
    · rw [g 0 (by decide) (by decide), sI_same]
      exact k11.trans hp
  cases hr : tlA (tK b len (M.2.1 74)) (tV b len) (stN b len) (tN b len) 401 s00 with
  | error y =>
    obtain ⟨x1, x2, x3, x4⟩ := O2 y hr
    obtain ⟨M27, e27, f27, z27, -, D⟩ := go M5 (c5M 67 (by decide) (by decide) (by decide) (by decide) (by decide) (by decide) (by omega)) (c5M 68 (by decide) (by decide) (by decide) (by decide) (by decide) (by decide) (by omega)) (f1.2.1 74 (by decide) (by decide))
    have D := D y hr
    refine ⟨x, M5, sI M27 67 17 (nI (stN b len y.2)), run (if_neg (by rw [x1]; exact nI_ne0 x3 (by omega))), ?_, fault f27 z27 x2⟩
    rw [e27]
    unfold rT9
    rw [if_neg D.1.nl, lt_def, lt_def, show (sI M27 67 17 (M27.1 67 14)).1 67 13 = M27.1 67 13 from sI_ix (by decide), if_neg D.1.nl, D.1.1.1, D.1.2.1, x1]
  | ok s =>
    obtain ⟨wf, O3, O4⟩ := O1 s hr
    by_cases hlf : s.2.2.2.2.2.1 = 0
    · obtain ⟨x1, x2, C1, P1, n, hn, h9', L1⟩ := O3 hlf
      have X := wf.2.2.2 hlf
      obtain ⟨w1, w2, w3, w4, w5⟩ := wf.1
      have q5 : ∀ k, k < 10 → M5.1 (12 - t + k) = M1.1 (12 - t + k) := fun k hk => c5 _ (by omega) (by omega)
      obtain ⟨M8, e8, d1, d2, d3, d4, d5, d6, d7, d8, d9⟩ := c_settle (M := M5) (t := t) (t' := 12 - t) (τ := s.2.1) ht ht' (by rw [show M5.2.2 0 = M.2.2 0 from f1.2.2 0 (by decide)]; exact h7.1) (by rw [show M5.2.2 0 = M.2.2 0 from f1.2.2 0 (by decide)]; exact h7.2) (C1.q q5) (P1.q q5) w3 w4
      have d1M : ∀ a, a = 67 ∨ a = 68 → M8.1 a = M.1 a := fun a h => (d1 a (by omega) (by omega) (by omega) (by omega)).trans (c5M a (by omega) (by omega) (by omega) (by omega) (by omega) (by omega) (by omega))
      obtain ⟨M27, e27, f27, z27, I, -⟩ := go M8 (d1M 67 (by omega)) (d1M 68 (by omega)) (by rw [d2]; exact f1.2.1 74 (by decide) (by decide))
      obtain ⟨g, n2, A, C, P, L⟩ := I s hr
      have P := P hlf
      have h15' : M27.1 67 15 = 0 := by rw [A.2.2.1.1, hlf]; rfl
      let M32 := sI M27 67 17 (-1)
      let M35 := sI M32 67 18 (nI (1 - v))
      have c35 : ∀ a, a ≠ 67 → M35.1 a = M27.1 a := fun a h => (sI_cell h).trans (sI_cell h)
      have i35 : ∀ i, i ≠ 17 → i ≠ 18 → M35.1 67 i = M27.1 67 i := fun i p q => (sI_ix q).trans (sI_ix p)
      have q35 : PQm M27 M35 := fun a p q => c35 a (by omega)
      obtain ⟨M37, M39, e37, e39, y1, y2, y3, y4⟩ := r_begN (M := M35) (v := 1 - v) (τ := s.2.1) (by omega) sI_same (C.q q35) (P.q q35) w1 w3 w4
      let M41 := sI (sI M39 67 60 0) 67 66 0
      let M45 := wrM M41 116 0 (fun _ => 0) 3
      have c45 : ∀ a, a ≠ 67 → a ≠ 103 → a ≠ 104 → a ≠ 116 → M45.1 a = M27.1 a := fun a p q r u => (wr_cell u).trans ((sI_cell p).trans ((sI_cell p).trans ((y1 a q r p).trans (c35 a p))))
      have i45 : ∀ i, i ≠ 60 → i ≠ 66 → i ≠ 55 → i ≠ 56 → M45.1 67 i = M35.1 67 i := fun i p q r u => (congrFun (wr_cell (by decide)) i).trans ((sI_ix q).trans ((sI_ix p).trans (y2 i r u)))
      have cc : ∀ a, a < 67 → M45.1 a = M8.1 a := fun a p => (c45 a (by omega) (by omega) (by omega) (by omega)).trans (f27.1 a (by omega) (by omega))
      have ct : ∀ k, k < 10 → M45.1 (12 - t + k) = M1.1 (12 - t + k) := fun k hk => (cc _ (by omega)).trans ((d1 _ (by omega) (by omega) (by omega) (by omega)).trans (q5 k hk))
      have r2 : M45.2 = M27.2 := y3
      have q45 : PQm M27 M45 := fun a p q => c45 a (by omega) (by omega) (by omega) (by omega)
      refine ⟨x, M8, M45, run (by rw [if_pos x1, e8, sb]), ?_, 12 - t, 1 - v, s.2.1, rhN s.2.1, fun k u => lwE u (s.2.2.2.1 k) (s.2.2.2.2.1 k), ⟨w1, w2, w3, w4, X.2.1, X.2.2.1, X.1⟩, wfN_00 w1 w3 w4 X, ?_, ?_, ?_, ?_, ?_, ?_, ?_, ?_, ?_, ?_, ⟨lawF_of wf.2.1, ?_, ?_⟩, ?_, ?_⟩
      · rw [e27]
        unfold rT9
        rw [A.1.1, if_pos (show (0 : Int32) ≤ 0 by decide), h15', if_pos (show (0 : Int32) ≤ 0 by decide), lt_def, lt_def, show (sI M27 67 17 (-1)).1 67 13 = 0 from (sI_ix (by decide)).trans A.1.1, if_pos (show (0 : Int32) ≤ 0 by decide), show (sI M27 67 17 (-1)).1 67 15 = 0 from (sI_ix (by decide)).trans h15', if_pos (show (0 : Int32) ≤ 0 by decide), show (sI M27 67 17 (-1)).1 67 19 = nI (1 - v) from (sI_ix (by decide)).trans A.2.1, lt_def, show f_X12_begins (sI (sI M27 67 17 (-1)) 67 18 (nI (1 - v))) = some M37 from e37, sb, e39, sb, lt_def, lt_def, r_cls, sb, x1]
      · have c := C1.q ct
        obtain ⟨p1, p2, p3, p4, p5, p6⟩ := P1.q ct
        exact ⟨ht', c.1, c.2.1, c.2.2.1, c.2.2.2, p2, p3, p4, fun y hy => ⟨(p5 y hy).1, (p5 y hy).2.1⟩⟩
      · have c := C.q q45
        obtain ⟨p1, p2, p3, p4, p5, p6⟩ := P.q q45
        exact ⟨by omega, (i45 18 (by decide) (by decide) (by decide) (by decide)).trans sI_same, c.1, c.2.1, c.2.2.1, c.2.2.2, p2, p3, p4, fun y hy => ⟨(p5 y hy).1, (p5 y hy).2.1⟩⟩
      · refine d4.cg (fun a p q => cc a (by omega)) ?_
        rw [r2, f27.2.2.2.2]
      · unfold NR at y4 ⊢
        rw [show M45.1 103 = M39.1 103 from (wr_cell (by decide)).trans ((sI_cell (by decide)).trans (sI_cell (by decide)))]
        exact y4
      · rw [r2, f27.2.2.2.2, show 12 - (12 - t) = t by omega]
        exact d3
      · obtain ⟨k, q, p1, p2, p3, p4, p5, p6⟩ := h8
        refine ⟨0, q, by omega, p2, ?_, ?_, ?_, fun j hj => absurd hj (by omega)⟩
        · rw [cc 57 (by decide)]; exact d5
        · rw [cc 57 (by decide), d7]
          exact (congrFun (c5M 57 (by decide) (by decide) (by decide) (by decide) (by decide) (by decide) (by omega)) 4).trans p4
        · exact (congrFun (wr_cell (by decide)) 60).trans ((sI_ix (by decide)).trans sI_same)
      · refine ⟨fun _ => false, ?_, fun s' hs => ⟨?_, fun z => by cases z⟩⟩
        · rw [cc 57 (by decide)]; exact d6
        · have := wr_at (M := M41) (a := 116) (l := 0) (n := 3) (k := s') (B := fun _ => 0) hs
          rw [Nat.zero_add] at this
          exact this
      · refine ⟨0, by omega, ?_, ?_, fun i hi => absurd hi (by omega)⟩
        · rw [cc 53 (by decide)]; exact d8
        · exact (congrFun (wr_cell (by decide)) 66).trans sI_same
      · refine ⟨0, by omega, ?_, ?_, fun i hi => absurd hi (by omega)⟩
        · rw [cc 21 (by decide), d1 21 (by decide) (by decide) (by decide) (by decide)]; exact k21
        · rw [i45 2 (by decide) (by decide) (by decide) (by decide), i35 2 (by decide) (by decide)]; exact z27
      · rw [cc 0 (by decide), d1 0 (by decide) (by decide) (by decide) (by decide), k11, x2, i45 17 (by decide) (by decide) (by decide) (by decide)]
        exact ((sI_ix (by decide)).trans sI_same).symm
      · refine lawC_of (T := n) ht' wf.2.1 ?_ hn (fun k hk => ?_)
        · rw [show M45.1 (12 - t) = M1.1 (12 - t) from ct 0 (by decide)]; exact h9'
        · obtain ⟨st, o1, o2, o3⟩ := L1.q ct k hk
          exact ⟨st, o1, o3, o2⟩
      · refine lawM_of (v := 1 - v) (by omega) ((i45 18 (by decide) (by decide) (by decide) (by decide)).trans sI_same) wf.2.1 (fun k hk => ?_)
        rcases L k hk with ⟨f, o1, o2, o3, o4⟩ | ⟨o1, o2, o3⟩
        · exact Or.inl ⟨f, (congrFun (q45 91 (by decide) (by decide)) _).trans o1, (congrFun (q45 92 (by decide) (by decide)) _).trans o2, o4 M45 (fun a q p1 p2 _ => congrFun (q45 a (by omega) (by omega)) q) (fun q _ => ⟨congrFun (q45 98 (by decide) (by decide)) q, congrFun (q45 99 (by decide) (by decide)) q⟩)⟩
        · exact Or.inr ⟨by rw [q45 91 (by decide) (by decide), q45 92 (by decide) (by decide)]; exact o1, o2, o3⟩
      · left
        rw [cc 48 (by decide)]; exact d9
      · have e28 : M45.2.1 28 = M.2.1 28 := by
          rw [r2, f27.2.2.2.1 28 (by decide) (by decide), d2]
          exact f1.2.1 28 (by decide) (by decide)
        have e74 : M45.2.1 74 = M.2.1 74 := by
          rw [r2, f27.2.2.2.1 74 (by decide) (by decide), d2]
          exact f1.2.1 74 (by decide) (by decide)
        unfold KeyR
        rw [e28, e74]
        exact h15
    · obtain ⟨x1, x2, x3⟩ := O4 hlf
      obtain ⟨M27, e27, f27, z27, I, -⟩ := go M5 (c5M 67 (by decide) (by decide) (by decide) (by decide) (by decide) (by decide) (by omega)) (c5M 68 (by decide) (by decide) (by decide) (by decide) (by decide) (by decide) (by omega)) (f1.2.1 74 (by decide) (by decide))
      obtain ⟨g, n2, A, -⟩ := I s hr
      have nl : ¬ nI s.2.2.2.2.2.1 ≤ 0 := nI_nle (by omega) (by omega)
      refine ⟨x, M5, sI M27 67 17 (nI s.2.2.2.2.2.2), run (if_neg (by rw [x1]; exact nI_ne0 (by omega) (by omega))), ?_, fault f27 z27 x2⟩
      rw [e27]
      unfold rT9
      rw [A.1.1, if_pos (show (0 : Int32) ≤ 0 by decide), A.2.2.1.1, if_neg nl, A.2.2.1.2.2 hlf, lt_def, lt_def, show (sI M27 67 17 (nI s.2.2.2.2.2.2)).1 67 13 = 0 from (sI_ix (by decide)).trans A.1.1, if_pos (show (0 : Int32) ≤ 0 by decide), show (sI M27 67 17 (nI s.2.2.2.2.2.2)).1 67 15 = nI s.2.2.2.2.2.1 from (sI_ix (by decide)).trans A.2.2.1.1, if_neg nl, x1]
end SRD

-- 89t.head: pure: how both begin to read
section HDC
variable {t v : Nat} {M M' : Mem}
def s00 : TSt := (0, fun _ _ => 0, [], fun _ => [], dfC, (0, 0))
theorem wf_df (k : Nat) : wfC (dfC k) := by
  unfold dfC
  split
  · exact ⟨Or.inl ⟨by decide, by decide, by decide, by decide, rfl⟩, Or.inl ⟨by decide, by decide, by decide, by decide, rfl⟩⟩
  · split
    · exact ⟨Or.inl ⟨by decide, by decide, by decide, by decide, rfl⟩, Or.inl ⟨by decide, by decide, by decide, by decide, rfl⟩⟩
    · exact ⟨Or.inl ⟨by decide, by decide, by decide, by decide, rfl⟩, Or.inl ⟨by decide, by decide, by decide, by decide, rfl⟩⟩
theorem wf_00 : WfS s00 := by
  refine ⟨⟨?_, ?_, ?_, ?_, rfl⟩, fun k => ⟨fun b hb => ?_, wf_df k⟩, fun p hp => ?_, fun _ => ⟨fun s hs => ?_, ?_, ?_, fun y hy => ?_, fun w hw => ?_, Or.inr rfl⟩⟩
  · show 0 ≤ 7; omega
  · show 0 ≤ 10; omega
  · show 0 ≤ 6; omega
  · show 0 ≤ 5; omega
  · cases hb
  · cases hp
  · exact absurd hs (show ¬ s < 0 by omega)
  · show 0 ≤ 100; omega
  · show 0 ≤ 9999; omega
  · exact absurd hy (show ¬ y < 0 by omega)
  · exact absurd hw (show ¬ w < 0 by omega)
theorem em_n {n k a : Nat} (h : M.1 t 9 = nI n) (hn : n < 407) (hk : k < 200) (ha : a < 16384) : f_X9_emit t (nI k) (nI a) M = some (sI (sI M (t + 9) n (nI (k * 16384 + a))) t 9 (nI (n + 1))) := by
  have e9 : (sI M (t + 9) n (nI (k * 16384 + a))).1 t 9 = nI n := (congrFun (sI_cell (by omega)) 9).trans h
  unfold f_X9_emit
  rw [h, li 407, if_neg (nI_ge hn (by omega)), cd_e hk ha, pg_n hn (by omega), sb, e9, nI_1, lt_def]
/-- a piece of code put behind -/
def emM (t n x : Nat) (M : Mem) : Mem := sI (sI M (t + 9) n (nI x)) t 9 (nI (n + 1))
theorem em9 {n x : Nat} : (emM t n x M).1 t 9 = nI (n + 1) := sI_same
theorem emt {n x j : Nat} (h : j ≠ 9) : (emM t n x M).1 t j = M.1 t j := (sI_ix h).trans (congrFun (sI_cell (by omega)) j)
theorem ema {n x a : Nat} (h : a ≠ t) (h' : a ≠ t + 9) : (emM t n x M).1 a = M.1 a := (sI_cell h).trans (sI_cell h')
theorem emc {n x : Nat} : (emM t n x M).1 (t + 9) n = nI x := (congrFun (sI_cell (by omega)) n).trans sI_same
theorem emo {n x q : Nat} (h : q ≠ n) : (emM t n x M).1 (t + 9) q = M.1 (t + 9) q := (congrFun (sI_cell (by omega)) q).trans (sI_ix h)
theorem em2 {n x : Nat} : (emM t n x M).2 = M.2 := rfl
theorem c_clearT (ht : isT t) : ∃ M', f_X9_clear t M = some M' ∧ (∀ a, a ≠ t → a ≠ t + 8 → a ≠ t + 9 → M'.1 a = M.1 a) ∧ M'.2 = M.2 ∧ M'.1 t 9 = nI 6 ∧ (∀ j, 10 ≤ j → j ≤ 16 → M'.1 t j = 0) ∧ LWc t 6 (fun _ => []) dfC M' := by
  let A0 := sI (sI (sI (sI (sI (sI (sI (sI M t 10 0) t 11 0) t 12 0) t 13 0) t 14 0) t 15 0) t 16 0) t 9 0
  have z9 : A0.1 t 9 = nI 0 := sI_same
  have zj : ∀ j, 10 ≤ j → j ≤ 16 → A0.1 t j = 0 := fun j h1 h2 => by
    show (sI (sI (sI (sI (sI (sI (sI (sI M t 10 0) t 11 0) t 12 0) t 13 0) t 14 0) t 15 0) t 16 0) t 9 0).1 t j = 0
    rw [sI_ix (by omega)]
    rcases (by omega : j = 10 ∨ j = 11 ∨ j = 12 ∨ j = 13 ∨ j = 14 ∨ j = 15 ∨ j = 16) with h | h | h | h | h | h | h <;> subst h <;> simp [sI1]
  have za : ∀ a, a ≠ t → A0.1 a = M.1 a := fun a h => (sI_cell h).trans ((sI_cell h).trans ((sI_cell h).trans ((sI_cell h).trans ((sI_cell h).trans ((sI_cell h).trans ((sI_cell h).trans (sI_cell h)))))))
  let A1 := sI A0 (t + 8) 0 (nI 0)
  have c1 : A1.1 t 9 = nI 0 := (congrFun (sI_cell (by omega)) 9).trans z9
  let A2 := emM t 0 (1 * 16384 + 0) A1
  have c2 : A2.1 t 9 = nI 1 := em9
  let A3 := emM t 1 (3 * 16384 + 0) A2
  have c3 : A3.1 t 9 = nI 2 := em9
  let A4 := sI A3 (t + 8) 1 (nI 2)
  have c4 : A4.1 t 9 = nI 2 := (congrFun (sI_cell (by omega)) 9).trans c3
  let A5 := emM t 2 (0 * 16384 + 1) A4
  have c5 : A5.1 t 9 = nI 3 := em9
  let A6 := emM t 3 (3 * 16384 + 0) A5
  have c6 : A6.1 t 9 = nI 4 := em9
  let A7 := sI A6 (t + 8) 2 (nI 4)
  have c7 : A7.1 t 9 = nI 4 := (congrFun (sI_cell (by omega)) 9).trans c6
  let A8 := sI A7 (t + 8) 3 (nI 4)
  have c8 : A8.1 t 9 = nI 4 := (congrFun (sI_cell (by omega)) 9).trans c7
  let A9 := emM t 4 (0 * 16384 + 0) A8
  have c9 : A9.1 t 9 = nI 5 := em9
  let A10 := emM t 5 (3 * 16384 + 0) A9
  have e2 : f_X9_emit t 1 0 A1 = some A2 := em_n (k := 1) (a := 0) c1 (by omega) (by omega) (by omega)
  have e3 : f_X9_emit t 3 0 A2 = some A3 := em_n (k := 3) (a := 0) c2 (by omega) (by omega) (by omega)
  have e5 : f_X9_emit t 0 1 A4 = some A5 := em_n (k := 0) (a := 1) c4 (by omega) (by omega) (by omega)
  have e6 : f_X9_emit t 3 0 A5 = some A6 := em_n (k := 3) (a := 0) c5 (by omega) (by omega) (by omega)
  have e9 : f_X9_emit t 0 0 A8 = some A9 := em_n (k := 0) (a := 0) c8 (by omega) (by omega) (by omega)
  have e10 : f_X9_emit t 3 0 A9 = some A10 := em_n (k := 3) (a := 0) c9 (by omega) (by omega) (by omega)
  have p1 : pg A0 (t + 8) 4 0 (A0.1 t 9) = some A1 := by rw [z9]; exact pg_n (i := 0) (by omega) (by omega)
  have p4 : pg A3 (t + 8) 4 1 (A3.1 t 9) = some A4 := by rw [c3]; exact pg_n (i := 1) (by omega) (by omega)
  have p7 : pg A6 (t + 8) 4 2 (A6.1 t 9) = some A7 := by rw [c6]; exact pg_n (i := 2) (by omega) (by omega)
  have p8 : pg A7 (t + 8) 4 3 (A7.1 t 9) = some A8 := by rw [c7]; exact pg_n (i := 3) (by omega) (by omega)
  have run : f_X9_clear t M = some A10 := by
    unfold f_X9_clear
    rw [lt_def, lt_def, lt_def, lt_def, lt_def, lt_def, lt_def, lt_def]
    show ((pg A0 (t + 8) 4 0 (A0.1 t 9)).bind _) = _
    rw [p1, sb, e2, sb, e3, sb, p4, sb, e5, sb, e6, sb, p7, sb, p8, sb, e9, sb, e10, sb]
  have b8 : ∀ {n x : Nat} {X : Mem} {k : Nat}, (emM t n x X).1 (t + 8) k = X.1 (t + 8) k := fun {n x X k} => congrFun (ema (by omega) (by omega)) k
  have b9 : ∀ {k : Nat} {y : Int32} {X : Mem} {q : Nat}, (sI X (t + 8) k y).1 (t + 9) q = X.1 (t + 9) q := fun {k y X q} => congrFun (sI_cell (by omega)) q
  have w0 : A10.1 (t + 8) 0 = nI 0 := b8.trans (b8.trans ((sI_ix (by decide)).trans ((sI_ix (by decide)).trans (b8.trans (b8.trans ((sI_ix (by decide)).trans (b8.trans (b8.trans sI_same))))))))
  have w1 : A10.1 (t + 8) 1 = nI 2 := b8.trans (b8.trans ((sI_ix (by decide)).trans ((sI_ix (by decide)).trans (b8.trans (b8.trans sI_same)))))
  have w2 : A10.1 (t + 8) 2 = nI 4 := b8.trans (b8.trans ((sI_ix (by decide)).trans sI_same))
  have w3 : A10.1 (t + 8) 3 = nI 4 := b8.trans (b8.trans sI_same)
  have k5 : A10.1 (t + 9) 5 = nI (3 * 16384 + 0) := emc
  have k4 : A10.1 (t + 9) 4 = nI (0 * 16384 + 0) := (emo (by decide)).trans emc
  have d8 : ∀ q, q < 4 → A10.1 (t + 9) q = A6.1 (t + 9) q := fun q hq => (emo (by omega)).trans ((emo (by omega)).trans (b9.trans b9))
  have k3 : A10.1 (t + 9) 3 = nI (3 * 16384 + 0) := (d8 3 (by omega)).trans emc
  have k2 : A10.1 (t + 9) 2 = nI (0 * 16384 + 1) := (d8 2 (by omega)).trans ((emo (by decide)).trans emc)
  have d4 : ∀ q, q < 2 → A10.1 (t + 9) q = A3.1 (t + 9) q := fun q hq => (d8 q (by omega)).trans ((emo (by omega)).trans ((emo (by omega)).trans b9))
  have k1 : A10.1 (t + 9) 1 = nI (3 * 16384 + 0) := (d4 1 (by omega)).trans emc
  have k0 : A10.1 (t + 9) 0 = nI (1 * 16384 + 0) := (d4 0 (by omega)).trans ((emo (by decide)).trans emc)
  refine ⟨A10, run, fun a h1 h2 h3 => ?_, rfl, em9, fun j h1 h2 => ?_, fun k hk => ?_⟩
  · exact (ema h1 h3).trans ((ema h1 h3).trans ((sI_cell h2).trans ((sI_cell h2).trans ((ema h1 h3).trans ((ema h1 h3).trans ((sI_cell h2).trans ((ema h1 h3).trans ((ema h1 h3).trans ((sI_cell h2).trans (za a h1))))))))))
  · have f8 : ∀ {k : Nat} {y : Int32} {X : Mem}, (sI X (t + 8) k y).1 t j = X.1 t j := fun {k y X} => congrFun (sI_cell (by omega)) j
    exact (emt (by omega)).trans ((emt (by omega)).trans (f8.trans (f8.trans ((emt (by omega)).trans ((emt (by omega)).trans (f8.trans ((emt (by omega)).trans ((emt (by omega)).trans (f8.trans (zj j h1 h2))))))))))
  · rcases (by omega : k = 0 ∨ k = 1 ∨ k = 2 ∨ k = 3) with h | h | h | h <;> subst h
    · exact ⟨0, w0, by decide, ⟨k0, trivial⟩, k1⟩
    · exact ⟨2, w1, by decide, ⟨k2, trivial⟩, k3⟩
    · exact ⟨4, w2, by decide, ⟨k4, trivial⟩, k5⟩
    · exact ⟨4, w3, by decide, ⟨k4, trivial⟩, k5⟩
/-- what the class's reader may write -/
def FQ (t : Nat) (M M' : Mem) : Prop := (∀ a, a ≠ 23 → a ≠ 25 → a ≠ 26 → a ≠ 30 → ¬ (t ≤ a ∧ a ≤ t + 9) → M'.1 a = M.1 a) ∧ (∀ a, a ≠ 27 → a ≠ 29 → M'.2.1 a = M.2.1 a) ∧ ∀ a, a ≠ 23 → M'.2.2 a = M.2.2 a
theorem FQ.tr {M1 : Mem} (h : FQ t M M1) (h' : FQ t M1 M') : FQ t M M' := ⟨fun a p q r s u => (h'.1 a p q r s u).trans (h.1 a p q r s u), fun a p q => (h'.2.1 a p q).trans (h.2.1 a p q), fun a p => (h'.2.2 a p).trans (h.2.2 a p)⟩
theorem FG.fq (h : FG t M M') : FQ t M M' := ⟨fun a p _ _ q r => h.1 a p q r, fun a _ q => h.2.1 a q, fun a _ => by rw [h.2.2]⟩
theorem FQ.w23 {i : Nat} {x : Int32} : FQ t M (sI M 23 i x) := ⟨fun a p _ _ _ _ => sI_cell p, fun _ _ _ => rfl, fun _ _ => rfl⟩
theorem c_start (ht : isT t) {b : Nat → Nat} {len : Nat} {kw : Nat → Int64} (hB : BC b len M) (hk : ∀ k, k < 23 → M.2.1 28 k = kw k) (hd : ∀ i j, i < j → j < 23 → kw i ≠ kw j) : ∃ M' E, f_X6_start t M = some M' ∧ FQ t M M' ∧ E ≤ 400 ∧ (∀ j, j < E → tK b len kw j ≠ 0 ∧ tK b len kw j ≠ 3) ∧ (E = 400 ∨ tK b len kw E = 0 ∨ tK b len kw E = 3) ∧ tokC (tK b len kw) (stN b len) (tV b len) (tN b len) E M' ∧ CI E t s00 M' := by
  have l8 := isT_le ht
  obtain ⟨M1, E, e1, f1, hE, h1, h2, T1⟩ := c_cutUp hB hk hd
  obtain ⟨M2, e2, g1, g2, g3, g4, g5⟩ := c_clearT (M := M1) ht
  let A := sI (sI (sI (sI (sI (sI (sR M2 23 5 (some t)) 23 6 0) 23 4 0) 23 7 0) 23 0 (-1)) 23 8 0) 23 9 (-1)
  have ca : ∀ a, a ≠ 23 → A.1 a = M2.1 a := fun a h => (sI_cell h).trans ((sI_cell h).trans ((sI_cell h).trans ((sI_cell h).trans ((sI_cell h).trans (sI_cell h)))))
  have t23 : t ≠ 23 := by omega
  have F : FQ t M A := by
    refine ⟨fun a p q r s u => ?_, fun a p q => ?_, fun a p => ?_⟩
    · rw [ca a p, g1 a (by omega) (by omega) (by omega)]
      exact f1.1 a q r
    · show M2.2.1 a = M.2.1 a
      rw [g2]
      exact f1.2.1 a p
    · have : (sR M2 23 5 (some t)).2.2 a = M2.2.2 a := funext (fun k => by simp [sR, p])
      show (sR M2 23 5 (some t)).2.2 a = M.2.2 a
      rw [this, g2, f1.2.2]
  refine ⟨A, E, ?_, F, hE, h1, h2, ?_, 6, ⟨⟨?_, ?_, ?_, ?_⟩, ⟨?_, by decide, fun z => absurd rfl z, fun _ => sI_same⟩, ⟨?_, by decide, (fun j p h => by cases h)⟩, fun _ => List.Pairwise.nil, Nat.zero_le _, by decide⟩, ?_, fun _ => ?_, ?_⟩
  · unfold f_X6_start
    rw [e1, sb, e2, sb, lt_def, lt_def, lt_def, lt_def, lt_def, lt_def, lt_def]
  · have T2 := T1.tok
    unfold tokC at T2 ⊢
    rw [ca 25 (by decide), ca 26 (by decide), g1 25 (by omega) (by omega) (by omega), g1 26 (by omega) (by omega) (by omega)]
    have : A.2.1 27 = M1.2.1 27 := by
      show M2.2.1 27 = _
      rw [g2]
    rw [this]
    exact T2
  · show (sI (sI (sI (sI (sI (sI (sR M2 23 5 (some t)) 23 6 0) 23 4 0) 23 7 0) 23 0 (-1)) 23 8 0) 23 9 (-1)).1 23 7 = 0
    simp [sI1]
  · show (sI (sI (sI (sI (sI (sI (sR M2 23 5 (some t)) 23 6 0) 23 4 0) 23 7 0) 23 0 (-1)) 23 8 0) 23 9 (-1)).1 23 6 = nI 0
    simp [sI1]
    rfl
  · rw [ca t t23]
    exact g3
  · show (sR M2 23 5 (some t)).2.2 23 5 = some t
    simp [sR]
  · show (sI (sI (sI (sI (sI (sI (sR M2 23 5 (some t)) 23 6 0) 23 4 0) 23 7 0) 23 0 (-1)) 23 8 0) 23 9 (-1)).1 23 8 = nI 0
    simp [sI1]
    rfl
  · show (sI (sI (sI (sI (sI (sI (sR M2 23 5 (some t)) 23 6 0) 23 4 0) 23 7 0) 23 0 (-1)) 23 8 0) 23 9 (-1)).1 23 4 = nI 0
    simp [sI1]
    rfl
  · unfold CNt
    rw [ca t t23]
    exact ⟨g4 10 (by omega) (by omega), g4 11 (by omega) (by omega), g4 12 (by omega) (by omega), g4 13 (by omega) (by omega)⟩
  · refine ⟨?_, ?_, ?_, fun s hs => absurd hs (show ¬ s < 0 by omega), fun y hy => absurd hy (show ¬ y < 0 by omega), fun u hu => absurd hu (show ¬ u < 0 by omega)⟩
    · rw [ca t t23]; exact g4 14 (by omega) (by omega)
    · rw [ca t t23]; exact g4 15 (by omega) (by omega)
    · rw [ca t t23]; exact g4 16 (by omega) (by omega)
  · exact g5.q (fun k hk => ca (t + k) (by omega))
end HDC

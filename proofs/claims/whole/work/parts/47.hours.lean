-- 47.hours: pure: hours, step
section TH2
variable {F : Nat → (Nat → Int32) → Int32} {τ : Nat → Nat → Nat} {ρ : Nat → Nat} {t v : Nat} {M M' : Mem} {X XF : List Nat}
theorem CX.kx (C : CX 60 t τ ρ F M) (k : KpX X XF M M') (hX : ∀ a ∈ townA, a ∉ X) (hN : ∀ a ∈ [60, 61, 62, 63, 64, 65, 66], a ∉ X) : CX 60 t τ ρ F M' := ⟨C.1, C.2.1, C.2.2.1.kx k hX, C.2.2.2.1.kx k hN, C.2.2.2.2.1, C.2.2.2.2.2.kx C.2.2.1.1 k hX⟩
theorem FrD.kx {S : List Nat} (f : FrD S M M') (h : ∀ a ∈ S, a ∈ X ∨ a ∉ keepA) (h67 : 67 ∉ S) : KpX X XF M M' := ⟨fun a ha hx => f.1 a (fun z => (h a z).elim hx (fun q => q ha)), fun k _ _ _ _ => by rw [f.1 67 h67], by rw [f.2], fun _ _ => by rw [f.2]⟩
abbrev nwS : List Nat := [60, 61, 62, 63, 64, 65, 66]
/-- a thing done: what stands between the two sides -/
theorem thing2 (R : RelP t v τ ρ F M) : ∃ MB, f_X11_beginThing M = some MB ∧ CX 60 t τ ρ F MB ∧ MB.2.2 0 9 = some t ∧ ∀ (ρ' : Nat → Nat) (MC : Mem), wfN τ ρ' → NC 60 t τ ρ' MC → KpX nwS [] MB MC → TR v τ MC ∧ NR 103 τ ρ MC ∧ ∃ M5, f_X12_copies MC = some M5 ∧ RX v τ ρ F M5 ∧ M5.1 67 55 = nI (tE τ) ∧ M5.1 67 56 = 0 ∧ ∀ MD, FrM rhS M5 MD → NR 104 τ ρ' MD → ∃ M2, f_X12_records MD = some M2 ∧ RelP t v τ ρ' F M2 ∧ ∀ i, i < 48 → M2.1 103 i = MD.1 104 i := by
  obtain ⟨MB, eB, kB, th⟩ := thing R
  refine ⟨MB, eB, R.cx.kx kB (by decide) (by decide), ?_, fun ρ' MC wn nC kC => ?_⟩
  · rw [kB.2.2.2 0 (by decide)]
    exact R.2.2.2.2.2.2.1.1
  · have kA : KpX [48, 57, 58, 60, 61, 62, 63, 64, 65, 66] [] M MC := KpX.tr (kB.sub (by decide) (by decide)) (kC.sub (by decide) (by decide))
    have V1 : TR v τ MC := R.tr.kx kA (by decide) (by decide)
    have N1 : NR 103 τ ρ MC := R.nr.kx kA (by decide)
    have L1 : LawM F MC := R.2.2.2.2.2.2.2.2.2.2.2.2.1.2.2.kx kA (by decide) (by decide)
    obtain ⟨M5, e5, f5, n5, h55, h56⟩ := r_copy N1 V1
    refine ⟨V1, N1, M5, e5, ⟨R.1, R.2.1, V1.fr f5 (by decide), n5, R.2.2.2.2.2.2.2.2.2.2.2.2.1.1, L1.of (fun a b c => f5.1 a (by simp; omega) (by omega)) (f5.2.1 18 (by decide) (by decide) (by decide))⟩, h55, h56, fun MD fD nD => ?_⟩
    exact th ρ' MC MD wn kC nC ((f5.tr fD).kp (by decide)) nD
end TH2
theorem nm1 {a : Nat} (h : a < 2 ^ 31) : ¬ nI a = -1 := fun z => nI_pos h (by rw [z]; decide)
theorem s_hours {M : Mem} (R : Rel M) (x1 : Int32) : OkB (f_X11_hours x1 M) (f_X12_hours x1) := by
  have R0 := R
  obtain ⟨t, v, τ, ρ, F, R⟩ := R
  rcases hrs x1 with h | ⟨n, hn, rfl, h⟩
  · refine ⟨-1, M, M, ?_, ?_, R0⟩
    · unfold f_X11_hours
      rw [hours_in, h, sb, if_pos rfl]
    · unfold f_X12_hours
      rw [h, sb, if_pos rfl]
  by_cases hz : n = 0
  · subst hz
    refine ⟨nI (ρ 47), M, M, ?_, ?_, R0⟩
    · unfold f_X11_hours
      rw [hours_in, h, sb, if_neg ne10, if_pos (by decide), R.2.2.2.2.1.2.2.1]
    · unfold f_X12_hours
      rw [h, sb, if_neg ne10, if_pos nI_0, li 47, ag_n (by omega) (by omega), sb, R.nr.1 47 (by omega) (by omega)]
  obtain ⟨MB, eB, CB, b9, th⟩ := thing2 R
  obtain ⟨MC, eC, CC, fC⟩ := c_pass (sd := nI (tE τ)) (fl := true) (m := n) CB (by omega)
  have kC : KpX nwS [] MB MC := fC.kx (by decide) (by decide)
  obtain ⟨V1, N1, M5, e5, X5, h55, h56, th⟩ := th _ MC CC.2.1 CC.2.2.2.1 kC
  obtain ⟨MD, eD, XD, fD⟩ := r_goes (fl := true) (m := n) X5 h55 h56 (by omega)
  obtain ⟨M2, e2, R2, r2⟩ := th MD fD.m XD.2.2.2.1
  refine ⟨nI (gsN F τ ρ (nI (tE τ)) true n 47), MC, M2, ?_, ?_, R2.rel⟩
  · unfold f_X11_hours
    rw [hours_in, h, sb, if_neg ne10, if_neg (nI_nle (by omega) (by omega)), eB, sb, rT_n b9 CB.2.2.1.1, sb, CB.2.2.1.2.2.2.2.2.2.1]
    rw [show f_X0_passHours 60 (nI n) (nI (tE τ)) 1 MB = some MC from eC, sb, CC.2.2.2.1.2.2.1]
  · unfold f_X12_hours
    rw [h, sb, if_neg ne10, if_neg (nI_ne0 (by omega) (by omega)), e5, sb, eD, sb, e2, sb, li 47, ag_n (by omega) (by omega), sb, r2 47 (by omega), XD.2.2.2.1.1 47 (by omega) (by omega)]
theorem s_step {M : Mem} (R : Rel M) (x1 : Int32) : OkB (f_X11_step x1 M) (f_X12_step x1) := by
  have R0 := R
  obtain ⟨t, v, τ, ρ, F, R⟩ := R
  have hw := R.1
  have wn := R.2.1
  have hT : TC t τ M := R.2.2.1
  have hV : TR v τ M := R.2.2.2.1
  have hN : NC 60 t τ ρ M := R.2.2.2.2.1
  have hM : NR 103 τ ρ M := R.2.2.2.2.2.1
  have h9 : M.2.2 0 9 = some t := R.2.2.2.2.2.2.1.1
  have hS : tS τ ≤ 10 := hw.2.1
  have hC : tC τ ≤ 7 := hw.1
  have hv : v ≤ 1 := hV.1
  rcases ar_in x1 (n := tS τ) (by omega) with h | ⟨s, hs, rfl⟩
  · refine ⟨-1, M, M, ?_, ?_, R0⟩
    · unfold f_X11_step
      rw [c_isStreet_o hT h9 h, sb, if_pos rfl]
    · unfold f_X12_step
      rw [r_isStreet_o hw hV h, sb, if_pos rfl]
  obtain ⟨q1, q2, q3, -, -⟩ := hw.2.2.2.2.2.2 s hs
  obtain ⟨a1, a2, -⟩ := hT.2.2.2.2.2.2.2.1 s hs
  have hc : 0 < tC τ := by omega
  have k46 := wn.2.2.2 hc
  have kl : M.1 60 2 = nI (ρ 46) := hN.2.2.2.1 hc
  have km : M.1 103 46 = nI (ρ 46) := hM.2.1 hc
  by_cases he : endB τ (ρ 46) s = true
  · obtain ⟨g, hg, eg, esum⟩ : ∃ g, g < tC τ ∧ f_X9_acrossFrom t (nI (ρ 46)) (nI s) M = some (nI g) ∧ nI (τ 1 s) + nI (τ 2 s) - nI (ρ 46) = nI g := by
      unfold f_X9_acrossFrom
      rw [ag_n (by omega) (by omega), sb, a1, ag_n (by omega) (by omega), sb, sb, a2]
      by_cases e1 : τ 1 s = ρ 46
      · refine ⟨τ 2 s, q2, ?_, ?_⟩
        · rw [if_pos (by rw [e1])]
        · rw [nI_add, pk_sub (by omega), show τ 1 s + τ 2 s - ρ 46 = τ 2 s by omega]
      · have e2 : τ 2 s = ρ 46 := by
          simp [endB] at he
          omega
        refine ⟨τ 1 s, q1, ?_, ?_⟩
        · rw [if_neg (fun z => e1 (nI_inj (by omega) (by omega) z)), if_pos (by rw [e2]), sb]
        · rw [nI_add, pk_sub (by omega), show τ 1 s + τ 2 s - ρ 46 = τ 1 s by omega]
    let ρ1 : Nat → Nat := fun k => if k = 46 then g else ρ k
    have r1 : ∀ k, k ≠ 46 → ρ1 k = ρ k := fun k hk => if_neg hk
    have r0 : ρ1 46 = g := if_pos rfl
    have wn1 : wfN τ ρ1 := by
      have hY : tY τ ≤ 6 := hw.2.2.1
      refine ⟨fun y hy => ?_, fun y hy => ?_, fun w hw => ?_, fun _ => by rw [r0]; exact hg⟩
      · rw [r1 y (by omega)]; exact wn.1 y hy
      · rw [r1 (6 + y) (by omega), r1 (12 + y) (by omega), r1 (30 + y) (by omega)]; exact wn.2.1 y hy
      · rw [r1 _ (by omega)]; exact wn.2.2.1 w hw
    obtain ⟨MB, eB, CB, b9, th⟩ := thing2 R
    have C0 : CX 60 t τ ρ1 F (sI MB 60 2 (nI g)) := by
      have e : ∀ a, a ≤ 20 → (sI MB 60 2 (nI g)).1 a = MB.1 a := fun a ha => sI_cell (by omega)
      refine ⟨hw, wn1, CB.2.2.1.of e, ?_, CB.2.2.2.2.1, CB.2.2.2.2.2.of CB.2.2.1.1 e⟩
      obtain ⟨h1, h2, h3, h4, h5, h6, h7, h8, h10⟩ := CB.2.2.2.1
      have hY : tY τ ≤ 6 := hw.2.2.1
      have g0 : ∀ i, i ≠ 2 → (sI MB 60 2 (nI g)).1 60 i = MB.1 60 i := fun i hi => sI_ix hi
      have g2 : ∀ a, a ≠ 60 → (sI MB 60 2 (nI g)).1 a = MB.1 a := fun a ha => sI_cell ha
      refine ⟨h1, h2, ?_, fun q => ?_, ?_, ?_, fun i hi => ?_, fun i hi => ?_, fun w hw => ?_⟩
      · rw [g0 1 (by omega), r1 47 (by omega)]; exact h3
      · rw [sI_same, r0]
      · have e : mskN (hmB ρ1) 6 = mskN (hmB ρ) 6 := mskN_cong (fun k hk => by unfold hmB; rw [r1 _ (by omega)])
        rw [g0 3 (by omega), e]; exact h5
      · have e : mskN (rgB ρ1) 6 = mskN (rgB ρ) 6 := mskN_cong (fun k hk => by unfold rgB; rw [r1 _ (by omega)])
        rw [g0 4 (by omega), e]; exact h6
      · rw [g2 (60 + 1) (by omega), r1 i (by omega)]; exact h7 i hi
      · rw [g2 (60 + 2) (by omega), g2 (60 + 3) (by omega), g2 (60 + 4) (by omega), r1 (6 + i) (by omega), r1 (18 + i) (by omega), r1 (24 + i) (by omega)]; exact h8 i hi
      · rw [g2 (60 + 5) (by omega), g2 (60 + 6) (by omega), r1 (36 + w) (by omega), r1 (41 + w) (by omega)]; exact h10 w hw
    obtain ⟨MC, eC, CC, fC⟩ := c_pass (sd := nI (tE τ)) (fl := true) (m := 1) C0 (by omega)
    have kC : KpX nwS [] MB MC := KpX.tr (KpX.set (by decide) (by decide)) (fC.kx (by decide) (by decide))
    obtain ⟨V1, N1, M5, e5, X5, h55, h56, th⟩ := th _ MC CC.2.1 CC.2.2.2.1 kC
    have fS : FrM [104] M5 (sI M5 104 46 (nI g)) := FrM.set (by decide) (by decide)
    have X6 : RX v τ ρ1 F (sI M5 104 46 (nI g)) := by
      refine ⟨hw, wn1, X5.2.2.1.fr fS (by decide), ⟨fun i hi h46 => ?_, fun _ => ?_, fun q => absurd q (by omega)⟩, X5.2.2.2.2.1, X5.2.2.2.2.2.of (fun a b c => sI_cell (by omega)) (congrFun (sI_cell (by decide)) 18)⟩
      · rw [sI_ix h46, r1 i h46]; exact X5.2.2.2.1.1 i hi h46
      · rw [sI_same, r0]
    obtain ⟨MD, eD, XD, fD⟩ := r_hour (fl := true) (sd := nI (tE τ)) X6 ((congrFun (sI_cell (by decide)) 55).trans h55) ((congrFun (sI_cell (by decide)) 56).trans h56)
    obtain ⟨M2, e2, R2, r2⟩ := th MD ((fS.tr fD.m).sub (by decide)) XD.2.2.2.1
    refine ⟨nI g, MC, M2, ?_, ?_, R2.rel⟩
    · unfold f_X11_step
      rw [c_isStreet_i hw hT h9 hs, sb, if_neg ne10, rT_n h9 hT.1, sb, kl, eg, sb, if_neg (nm1 (by omega)), eB, sb, lt_def, rT_n (M := sI MB 60 2 (nI g)) b9 CB.2.2.1.1, sb, C0.2.2.1.2.2.2.2.2.2.1]
      rw [show f_X0_passHours 60 1 (nI (tE τ)) 1 (sI MB 60 2 (nI g)) = some MC from eC, sb]
    · obtain ⟨b1, b2, -⟩ := X5.2.2.1.2.2.2.2.2.2.2.2.1 s hs
      have kn : M5.1 104 46 = nI (ρ 46) := X5.2.2.2.1.2.1 hc
      unfold f_X12_step f_X12_otherEnd
      rw [r_isStreet_i hw V1 hs, sb, if_neg ne10, li 46, ag_n (by omega) (by omega), sb, N1.2.1 hc, r_isEnd hw V1 (by omega) hs, he, if_pos rfl, sb, if_neg ne10, e5, sb, ag_n (by omega) (by omega), sb, kn, X5.2.2.1.2.1, li 10, pk_mul, nI_add, ag_n (by omega) (by omega), sb, b1, ag_n (by omega) (by omega), sb, b2, sb, esum, pg_n (by omega) (by omega), sb, eD, sb, e2, sb, ag_n (by omega) (by omega), sb, r2 46 (by omega), XD.2.2.2.1.2.1 hc, hrP_o (by omega), hr_o (Or.inr (by omega)), r0]
  · have he' : endB τ (ρ 46) s = false := by simpa using he
    refine ⟨-1, M, M, ?_, ?_, R0⟩
    · unfold f_X11_step f_X9_acrossFrom
      simp [endB] at he
      rw [c_isStreet_i hw hT h9 hs, sb, if_neg ne10, rT_n h9 hT.1, sb, kl, ag_n (by omega) (by omega), sb, a1, if_neg (fun z => he.1 (nI_inj (by omega) (by omega) z)), ag_n (by omega) (by omega), sb, a2, if_neg (fun z => he.2 (nI_inj (by omega) (by omega) z)), sb, if_pos rfl]
    · unfold f_X12_step
      rw [r_isStreet_i hw hV hs, sb, if_neg ne10, li 46, ag_n (by omega) (by omega), sb, km, r_isEnd hw hV (by omega) hs, he', if_neg Bool.false_ne_true, sb, if_pos rfl]

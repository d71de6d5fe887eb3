-- 30.thing: pure: every call that does a thing, in one
theorem KpX.sub {X XF X2 XF2 : List Nat} {M M' : Mem} (k : KpX X XF M M') (h : ∀ a ∈ X, a ∈ X2) (hf : ∀ a ∈ XF, a ∈ XF2) : KpX X2 XF2 M M' := ⟨fun a h1 h2 => k.1 a h1 (fun z => h2 (h a z)), fun q a b c d => k.2.1 q a b c (fun z => d (hf q z)), k.2.2⟩
abbrev thX : List Nat := [48, 57, 58, 60, 61, 62, 63, 64, 65, 66, 103, 108]
theorem thing {t v : Nat} {τ : Nat → Nat → Nat} {ρ : Nat → Nat} {F : Nat → (Nat → Int32) → Int32} {M : Mem} (R : RelP t v τ ρ F M) : ∃ MB, f_X11_beginThing M = some MB ∧ KpX [48, 57, 58] [] M MB ∧ ∀ (ρ' : Nat → Nat) (MC MD : Mem), wfN τ ρ' → KpX [60, 61, 62, 63, 64, 65, 66] [] MB MC → NC 60 t τ ρ' MC → Kp MC MD → NR 104 τ ρ' MD → ∃ M2, f_X12_records MD = some M2 ∧ RelP t v τ ρ' F M2 ∧ ∀ i, i < 48 → M2.1 103 i = MD.1 104 i := by
  have hw := R.1
  obtain ⟨k, x, hk, hx, q0, q4, q60, hr⟩ := R.2.2.2.2.2.2.2.1
  have eB := c_begin hk hx q0 q4
  let MB : Mem := sI (sI (sI (wrM M 58 (38 * x) (nB M) 38) 57 4 (nI ((x + 1) % 40))) 57 0 (nI (if k + 1 < 40 then k + 1 else 40))) 48 2 1
  have kB : KpX [48, 57, 58] [] M MB := KpX.tr (KpX.tr (KpX.tr (KpX.wr (by decide) (by decide)) (KpX.set (by decide) (by decide))) (KpX.set (by decide) (by decide))) (KpX.set (by decide) (by decide))
  have b48 : MB.1 48 2 = 1 := sI_same
  have b570 : MB.1 57 0 = nI (if k + 1 < 40 then k + 1 else 40) := (congrFun (sI_cell (by decide)) 0).trans sI_same
  have b574 : MB.1 57 4 = nI ((x + 1) % 40) := (congrFun (sI_cell (by decide)) 4).trans ((sI_ix (by decide)).trans sI_same)
  have b571 : MB.1 57 1 = M.1 57 1 := (congrFun (sI_cell (by decide)) 1).trans ((sI_ix (by decide)).trans ((sI_ix (by decide)).trans (congrFun (wr_cell (by decide)) 1)))
  have b58 : MB.1 58 = (wrM M 58 (38 * x) (nB M) 38).1 58 := (sI_cell (by decide)).trans ((sI_cell (by decide)).trans (sI_cell (by decide)))
  refine ⟨MB, eB, kB, fun ρ' MC MD wn kC nC kD nD => ?_⟩
  generalize MB = MB at kB b48 b570 b574 b571 b58 kC
  have kM : KpX thX [60] M MD := KpX.tr (KpX.tr (kB.sub (by decide) (by decide)) (kC.sub (by decide) (by decide))) kD.x
  have d : ∀ c ∈ keepA, c ∉ [60, 61, 62, 63, 64, 65, 66] → MD.1 c = MB.1 c := fun c h1 h2 => (kD.1 c h1).trans (kC.1 c h1 h2)
  have d60 : MD.1 67 60 = nI k := ((kD.2.1 60 (by decide) (by decide) (by decide)).trans ((kC.2.1 60 (by decide) (by decide) (by decide) (by decide)).trans (kB.2.1 60 (by decide) (by decide) (by decide) (by decide)))).trans q60
  have d108 : MD.1 108 = M.1 108 := (d 108 (by decide) (by decide)).trans (kB.1 108 (by decide) (by decide))
  have d103 : MD.1 103 = M.1 103 := (d 103 (by decide) (by decide)).trans (kB.1 103 (by decide) (by decide))
  obtain ⟨M2, e2, k2, m60, mR, mN, mH⟩ := r_records hk d60
  have K : KpX thX [60] M M2 := KpX.tr kM (k2.sub (by decide) (by decide))
  have f : ∀ c ∈ keepA, c ∉ [60, 61, 62, 63, 64, 65, 66, 103, 108] → M2.1 c = MB.1 c := fun c h1 h2 => (k2.1 c h1 (fun z => h2 (by revert z; simp; omega))).trans (d c h1 (fun z => h2 (by revert z; simp; omega)))
  refine ⟨M2, e2, ?_, mR⟩
  have nc : NC 60 t τ ρ' M2 := (nC.kp kD).kx k2 (by decide)
  have nr : NR 103 τ ρ' M2 := ⟨fun i hi h46 => (mR i hi).trans (nD.1 i hi h46), fun q => (mR 46 (by omega)).trans (nD.2.1 q), fun q => (mR 46 (by omega)).trans (nD.2.2 q)⟩
  have c57 : M2.1 57 = MB.1 57 := f 57 (by decide) (by decide)
  have c58 : M2.1 58 = (wrM M 58 (38 * x) (nB M) 38).1 58 := (f 58 (by decide) (by decide)).trans b58
  have pa : PastR τ M2 := by
    refine ⟨if k + 1 < 40 then k + 1 else 40, (x + 1) % 40, by split <;> omega, Nat.mod_lt _ (by omega), by rw [c57]; exact b570, by rw [c57]; exact b574, m60, fun j hj => ?_⟩
    by_cases h40 : k = 40
    · rw [if_neg (by omega)] at hj mN mH ⊢
      rw [if_pos h40] at mH
      by_cases hj2 : j = 39
      · subst hj2
        refine ⟨ρ, R.2.1, ?_, ?_⟩
        · rw [show ((x + 1) % 40 + 40 - 40 + 39) % 40 = x by omega]
          exact (RC.wr hw R.2.2.2.2.1).kp c58
        · exact RR.to R.2.2.2.2.2.1 (fun i hi => (mN i hi).trans (by rw [d103]))
      · obtain ⟨ρ2, a1, a2, a3⟩ := hr (j + 1) (by omega)
        rw [show (x + 40 - k + (j + 1)) % 40 = ((x + 1) % 40 + 40 - 40 + j) % 40 by omega] at a2
        refine ⟨ρ2, a1, a2.of hw (fun i hi => ?_), ⟨fun i hi h46 => ?_, fun q => ?_, fun q => ?_⟩⟩
        · rw [c58]
          exact wr_out (by omega)
        · rw [mH j i (by omega) hi, d108]; exact a3.1 i hi h46
        · rw [mH j 46 (by omega) (by omega), d108]; exact a3.2.1 q
        · rw [mH j 46 (by omega) (by omega), d108]; exact a3.2.2 q
    · have eK : (if k + 1 < 40 then k + 1 else 40) = k + 1 := by split <;> omega
      have eq : (if k + 1 < 40 then k else 39) = k := by split <;> omega
      rw [eK] at hj ⊢
      rw [eq] at mN mH
      rw [if_neg h40] at mH
      by_cases hj2 : j = k
      · subst hj2
        refine ⟨ρ, R.2.1, ?_, ?_⟩
        · rw [show ((x + 1) % 40 + 40 - (j + 1) + j) % 40 = x by omega]
          exact (RC.wr hw R.2.2.2.2.1).kp c58
        · exact RR.to R.2.2.2.2.2.1 (fun i hi => (mN i hi).trans (by rw [d103]))
      · obtain ⟨ρ2, a1, a2, a3⟩ := hr j (by omega)
        rw [show (x + 40 - k + j) % 40 = ((x + 1) % 40 + 40 - (k + 1) + j) % 40 by omega] at a2
        refine ⟨ρ2, a1, a2.of hw (fun i hi => ?_), ⟨fun i hi h46 => ?_, fun q => ?_, fun q => ?_⟩⟩
        · rw [c58]
          exact wr_out (by omega)
        · rw [mH j i (by omega) hi, d108]; exact a3.1 i hi h46
        · rw [mH j 46 (by omega) (by omega), d108]; exact a3.2.1 q
        · rw [mH j 46 (by omega) (by omega), d108]; exact a3.2.2 q
  have sl : SlotR τ M2 := R.2.2.2.2.2.2.2.2.1.of (by rw [c57]; exact b571) (K.1 59 (by decide) (by decide)) (K.1 116 (by decide) (by decide)) (K.1 117 (by decide) (by decide))
  exact R.kx (ρ' := ρ') K (by decide) (by decide) (by decide) (by decide) wn nc nr pa sl (R.2.2.2.2.2.2.2.2.2.1.kx K (by decide) (by decide)) (R.2.2.2.2.2.2.2.2.2.2.1.kx K (by decide) (by decide)) (Or.inl (by rw [f 48 (by decide) (by decide)]; exact b48))

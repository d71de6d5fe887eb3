-- 77.crd2: pure: the class reads an expression, the end
section CRE
variable {K V P : Nat → Nat} {N : Nat → Int64} {E t : Nat} {M M' : Mem}
theorem lN_i3 (v : Nat) : (lN v).toInt32 = nI v := Int64.toInt32_ofNat
theorem sub_n2 {a b : Nat} (h : b ≤ a) : nI a - nI b = nI (a - b) := by
  rw [show a = (a - b) + b by omega, ← nI_add, Int32.add_sub_cancel, show a - b + b - b = a - b by omega]
theorem pass9 (ht : isT t) (e : f_X6_pass M = some M') : M'.1 t = M.1 t := by
  have t23 := isT_23 ht
  unfold f_X6_pass at e
  by_cases a : M.1 23 7 = 0
  · rw [if_pos a] at e
    by_cases b : (400 : Int32) ≤ M.1 23 6
    · rw [if_pos b, lt_def] at e
      cases hx : ag (sI M 23 7 2) 26 401 ((sI M 23 7 2).1 23 6) with
      | none => rw [hx] at e; cases e
      | some v =>
        rw [hx, sb, lt_def] at e
        cases e
        exact (sI_cell t23.1).trans (sI_cell t23.1)
    · rw [if_neg b, lt_def] at e
      cases e
      exact sI_cell t23.1
  · rw [if_neg a] at e
    cases e
    rfl
theorem fail9 {x : Int32} (ht : isT t) (e : f_X6_fail x M = some M') : M'.1 t = M.1 t := by
  have t23 := isT_23 ht
  unfold f_X6_fail at e
  by_cases a : M.1 23 7 = 0
  · rw [if_pos a, lt_def] at e
    cases hx : ag (sI M 23 7 x) 26 401 ((sI M 23 7 x).1 23 6) with
    | none => rw [hx] at e; cases e
    | some v =>
      rw [hx, sb, lt_def] at e
      cases e
      exact (sI_cell t23.1).trans (sI_cell t23.1)
  · rw [if_neg a] at e
    cases e
    rfl
theorem exp9 {x : Int32} (ht : isT t) (e : f_X6_expect x M = some M') : M'.1 t = M.1 t := by
  unfold f_X6_expect at e
  cases hk : f_X6_kind M with
  | none => rw [hk] at e; cases e
  | some v =>
    rw [hk, sb] at e
    by_cases a : v = x
    · rw [if_pos a] at e
      cases hp : f_X6_pass M with
      | none => rw [hp] at e; cases e
      | some M1 =>
        rw [hp, sb] at e
        cases e
        exact pass9 ht hp
    · rw [if_neg a] at e
      cases hp : f_X6_fail 1 M with
      | none => rw [hp] at e; cases e
      | some M1 =>
        rw [hp, sb] at e
        cases e
        exact fail9 ht hp
theorem szG_of {n m : Nat} (h : M.1 t 9 = nI m) (hm : m ≤ 407) (hn : n ≤ m) : szG t n M := fun a e ha => by
  rw [h] at e
  have := nI_inj (by omega) (by omega) e
  omega
theorem PF.up {n n' : Nat} (h : PF t n' M M') (hn : n ≤ n') : PF t n M M' := ⟨h.1, h.2.1, h.2.2.1, fun q hq => h.2.2.2.1 q (by omega), h.2.2.2.2⟩
theorem un_f : ∀ k, k < 43 → (cmN k = 3 ↔ k = 2) ∧ (142 ≤ cmN k ↔ 34 ≤ k) ∧ (34 ≤ k → cmN k = k + 108) ∧ (cmN k = 40 ↔ k = 6) ∧ cmN k ≤ 150 := by decide +kernel
theorem c_one1 {d i n k a : Nat} {c : Nat × Nat} (ht : isT t) (w : wfK K P V E) (hi : i ≤ E) (T : tokC K P V N E M) (S : PS t i n M) (hn : n ≤ 6 + i) (h0 : K i ≠ 0) (h3 : K i ≠ 3) (hk : k < 200) (ha : a < 16384) (hc : cdC c = k * 16384 + a) : ∃ M', ((f_X9_emit t (nI k) (nI a) M).bind fun M7 => (f_X6_pass M7).bind fun M9 => some M9) = some M' ∧ PF t n M M' ∧ OC K P E t i n M' (if i < 400 then .ok ([c], i + 1) else .error (2, i)) := by
  have hE := w.1
  obtain ⟨M1, e1, f1, S1, d1, o1⟩ := c_emit (k := k) (a := a) ht S (by omega) hk ha
  obtain ⟨M2, e2, f2, a1, a2⟩ := c_go ht (T.pf ht f1) hi hE S1 (by omega)
  refine ⟨M2, by rw [e1, sb, e2, sb], f1.tr f2 (by omega), ?_⟩
  by_cases h4 : i < 400
  · rw [if_pos h4]
    obtain ⟨S2, q2⟩ := a1 h4
    refine ⟨S2, ⟨?_, trivial⟩, by show i < i + 1; omega, w.nx hi h0 h3 h4, by show i + 1 ≤ i + 1; omega⟩
    rw [q2, d1, hc]
  · rw [if_neg h4]
    refine ⟨Or.inr rfl, hi, a2 (by omega), szG_of (m := n + 1) ((congrFun (pass9 ht e2) 9).trans S1.2.2.1) (by omega) (by omega)⟩
theorem c_ru {f d i n : Nat} {rv : Int32 → Int32 → Mem → Option Mem} {ru : Int32 → Mem → Option Mem} (ht : isT t) (w : wfK K P V E) (hd : d ≤ 6) (hrv : d < 6 → ∀ i n M, i ≤ E → tokC K P V N E M → PS t i n M → n ≤ 6 + i → ∃ M', rv 0 (nI (d + 1)) M = some M' ∧ PF t n M M' ∧ OC K P E t i n M' (rdG K V f 0 (d + 1) i)) (hrvD : d < 6 → ∀ e p n M, DD t e p M → szG t n M → ∃ M', rv 0 (nI (d + 1)) M = some M' ∧ PF t n M M' ∧ DD t e p M' ∧ szG t n M') (hi : i ≤ E) (T : tokC K P V N E M) (S : PS t i n M) (hn : n ≤ 6 + i) : ∃ M', g_X6_readUnit rv ru (nI d) M = some M' ∧ PF t n M M' ∧ OC K P E t i n M' (rdG K V (f + 1) 2 d i) := by
  have hE := w.1
  have hK := (w.2.1 i hi).1
  obtain ⟨u1, u2, u3, u4, u5⟩ := un_f (K i) hK
  unfold g_X6_readUnit
  rw [c_kind T hi hE S, sb]
  have L3 : ∀ a, a < 200 → (nI (cmN (K i)) = nI a ↔ cmN (K i) = a) := fun a ha => ⟨fun z => nI_inj (by omega) (by omega) z, fun z => by rw [z]⟩
  rw [li 3, li 142, li 40, li 150]
  unfold rdG
  rw [if_neg (by omega : ¬ (2 < 2))]
  by_cases k2 : K i = 2
  · have v := ((T i hi).2.2.1 k2)
    have vb := w.2.2.2.2 i hi k2
    rw [if_pos ((L3 3 (by omega)).mpr (u1.mpr k2)), rT_n S.2.2.2 ht, sb, S.2.1, aj_n (by omega) (by omega), sb, v, lN_i3, if_pos k2]
    exact c_one1 (d := d) (k := 0) (a := V i) ht w hi T S hn (by omega) (by omega) (by omega) (by omega) (by show ccN 0 * 16384 + V i = _; rfl)
  · rw [if_neg (fun z => k2 (u1.mp ((L3 3 (by omega)).mp z))), if_neg k2]
    by_cases k34 : 34 ≤ K i
    · have c1 := u3 k34
      rw [if_neg (nI_nlt' (nI_le (u2.mpr k34) (by omega))), if_neg (nI_nlt' (nI_le u5 (by omega))), if_pos ⟨k34, by omega⟩, rT_n S.2.2.2 ht, sb]
      have : nI (cmN (K i)) - nI 142 = nI (K i - 34) := by
        rw [sub_n2 (u2.mpr k34), show cmN (K i) - 142 = K i - 34 by omega]
      rw [this]
      exact c_one1 (d := d) (k := 1) (a := K i - 34) ht w hi T S hn (by omega) (by omega) (by omega) (by omega) (by show ccN 1 * 16384 + (K i - 34) = _; rfl)
    · rw [if_pos (nI_lt' (by have := u2.mp; omega) (by omega)), if_neg (by omega : ¬ (34 ≤ K i ∧ K i ≤ 42))]
      by_cases k6 : K i = 6
      · rw [if_pos ((L3 40 (by omega)).mpr (u4.mpr k6)), if_pos k6]
        by_cases d6 : d < 6
        · rw [li 6, if_pos (nI_lt' d6 (by omega)), S.1, if_pos rfl, if_neg (by omega : ¬ 6 ≤ d)]
          obtain ⟨M1, e1, f1, a1, a2⟩ := c_go ht T hi hE S (by omega)
          rw [e1, sb, nI_1]
          by_cases h4 : i < 400
          · obtain ⟨S1, q1⟩ := a1 h4
            have hi1 := w.nx hi (by omega) (by omega) h4
            have T1 := T.pf ht f1
            obtain ⟨M2, e2, f2, O2⟩ := hrv d6 (i + 1) n M1 hi1 T1 S1 (by omega)
            have T2 := T1.pf ht f2
            rw [e2, sb, if_pos h4]
            cases hr : rdG K V f 0 (d + 1) (i + 1) with
            | error x =>
              rw [hr] at O2
              obtain ⟨x1, x2, x3, x4⟩ := O2
              exact ⟨M2, by rw [c_expD x3, sb], f1.tr f2 (Nat.le_refl _), x1, x2, x3, x4⟩
            | ok r =>
              rw [hr] at O2
              obtain ⟨y1, y2, y3, y4, y5⟩ := O2
              obtain ⟨M3, e3, f3, b1, b2, b3⟩ := c_expect (k := 7) ht w T2 y4 y1 (by omega) (by omega)
              have z9 : ∀ {n'}, n' ≤ n + r.1.length → szG t n' M3 := fun h => szG_of ((congrFun (exp9 ht e3) 9).trans y1.2.2.1) (by omega) h
              refine ⟨M3, by rw [show f_X6_expect 41 M2 = some M3 from e3, sb], (f1.tr f2 (Nat.le_refl _)).tr (f3.up (by omega)) (Nat.le_refl _), ?_⟩
              show OC K P E t i n M3 (if K r.2 = 7 then (if r.2 < 400 then .ok (r.1, r.2 + 1) else .error (2, r.2)) else .error (1, r.2))
              by_cases k7 : K r.2 = 7
              · rw [if_pos k7]
                by_cases h44 : r.2 < 400
                · rw [if_pos h44]
                  obtain ⟨S3, q3⟩ := b1 k7 h44
                  exact ⟨S3, y2.of (fun q _ _ => congrFun q3 q), by show i < r.2 + 1; omega, w.nx y4 (by omega) (by omega) h44, by show i + r.1.length ≤ r.2 + 1; omega⟩
                · rw [if_neg h44]
                  exact ⟨Or.inr rfl, y4, b2 k7 (by omega), z9 (by omega)⟩
              · rw [if_neg k7]
                exact ⟨Or.inl rfl, y4, b3 k7, z9 (by omega)⟩
          · have D1 := a2 (by omega)
            obtain ⟨M2, e2, f2, D2, g2⟩ := hrvD d6 2 (P i) n M1 D1 (szG_of ((congrFun (pass9 ht e1) 9).trans S.2.2.1) (by omega) (Nat.le_refl _))
            rw [e2, sb, c_expD D2, sb, if_neg h4]
            exact ⟨M2, rfl, f1.tr f2 (Nat.le_refl _), Or.inr rfl, hi, D2, g2⟩
        · obtain ⟨M1, e1, f1, D1⟩ := c_fail (x := 2) ht T hi hE S (by omega) (by omega) (by omega)
          rw [li 6, if_neg (nI_nlt' (nI_le (by omega) (by omega))), if_pos (by omega : 6 ≤ d), show f_X6_fail 2 M = some M1 from e1, sb]
          exact ⟨M1, rfl, f1, Or.inr rfl, hi, D1, szG_of ((congrFun (fail9 ht e1) 9).trans S.2.2.1) (by omega) (Nat.le_refl _)⟩
      · obtain ⟨M1, e1, f1, D1⟩ := c_fail (x := 1) ht T hi hE S (by omega) (by omega) (by omega)
        rw [if_neg (fun z => k6 (u4.mp ((L3 40 (by omega)).mp z))), if_neg k6, show f_X6_fail 1 M = some M1 from e1, sb]
        exact ⟨M1, rfl, f1, Or.inl rfl, hi, D1, szG_of ((congrFun (fail9 ht e1) 9).trans S.2.2.1) (by omega) (Nat.le_refl _)⟩
theorem c_rd (ht : isT t) (w : wfK K P V E) : ∀ (f q lv d : Nat), lv ≤ 2 → d ≤ 6 → 3 - lv + 3 * (6 - d) ≤ f → 4 - lv + 4 * (6 - d) ≤ q → ∀ (i n : Nat) (M : Mem), i ≤ E → tokC K P V N E M → PS t i n M → n ≤ 6 + i → ∃ M', (n_X6_rv q).1 (nI lv) (nI d) M = some M' ∧ PF t n M M' ∧ OC K P E t i n M' (rdG K V f lv d i)
  | 0, q, lv, d, hlv, hd, hf, hq => absurd hf (by omega)
  | f + 1, 0, lv, d, hlv, hd, hf, hq => absurd hq (by omega)
  | f + 1, q + 1, lv, d, hlv, hd, hf, hq => by
    intro i n M hi T S hn
    show ∃ M', g_X6_readValue (n_X6_rv q).1 (n_X6_rv q).2 (nI lv) (nI d) M = some M' ∧ _
    unfold g_X6_readValue
    rw [li 2]
    by_cases h2 : lv < 2
    · obtain ⟨M1, e1, f1, O1⟩ := c_rd ht w f q (lv + 1) d (by omega) hd (by omega) (by omega) i n M hi T S hn
      rw [if_pos (nI_lt' h2 (by omega)), nI_1, e1, sb]
      unfold rdG
      rw [if_pos h2]
      cases hr : rdG K V f (lv + 1) d i with
      | error x =>
        rw [hr] at O1
        obtain ⟨x1, x2, x3, x4⟩ := O1
        refine ⟨M1, ?_, f1, x1, x2, x3, x4⟩
        rw [show FU = 999999 + 1 from rfl, f_X6_readValue_L21, if_neg (show ¬ (401 : Int32) ≤ 0 by decide), if_neg x3.n0, sb]
      | ok r =>
        rw [hr] at O1
        obtain ⟨y1, y2, y3, y4, y5⟩ := O1
        obtain ⟨M2, e2, f2, O2⟩ := c_loop (d := d) (f := f) (i0 := i) (n := n) (rv := (n_X6_rv q).1) (ru := (n_X6_rv q).2) ht w h2 (fun i n M a b c d' => c_rd ht w f q (lv + 1) d (by omega) hd (by omega) (by omega) i n M a b c d') (fun e p n M a b => c_rdD ht q (lv + 1) d M e p n (by omega) (by omega) a b) 401 FU r.1 r.2 M1 (by omega) (by decide) y4 y3 (T.pf ht f1) y1 y2 ⟨hn, y5⟩
        refine ⟨M2, ?_, f1.tr f2 (Nat.le_refl _), O2⟩
        rw [show (0 : Int32) = nI (401 - 401) from rfl, e2, sb]
    · obtain rfl : lv = 2 := by omega
      obtain ⟨r, rfl⟩ : ∃ r, q = r + 1 := ⟨q - 1, by omega⟩
      obtain ⟨M1, e1, f1, O1⟩ := c_ru (f := f) (rv := (n_X6_rv r).1) (ru := (n_X6_rv r).2) ht w hd (fun d6 i n M a b c e => c_rd ht w f r 0 (d + 1) (by omega) (by omega) (by omega) (by omega) i n M a b c e) (fun d6 e p n M a b => c_rdD ht r 0 (d + 1) M e p n (by omega) (by omega) a b) hi T S hn
      refine ⟨M1, ?_, f1, O1⟩
      rw [if_neg (nI_nlt' (nI_le (by omega) (by omega))), show (n_X6_rv (r + 1)).2 (nI d) M = some M1 from e1, sb]
end CRE

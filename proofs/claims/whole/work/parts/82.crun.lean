-- 82.crun: pure: how the class reckons a code
section CRUN
variable {lw t : Nat} {M M' : Mem} {k : Mem → Option (Int32 × Mem)}
theorem nI_m1 (n : Nat) : nI (n + 1) + (-1) = nI n := by
  rw [nI_succ, Int32.add_assoc, show (1 : Int32) + -1 = 0 by decide, Int32.add_zero]
theorem dec_1 {c a : Nat} (hc : c < 200) (ha : a < 16384) : nI (c * 16384 + a) >>> ((14 : Int32) &&& 31) = nI c := by
  have := shr_n (a := c * 16384 + a) (k := 14) (by omega) (by omega)
  rw [show (14 : Int32) = nI 14 from rfl, this, show (c * 16384 + a) / 2 ^ 14 = c by omega]
theorem dec_2 {c a : Nat} (hc : c < 200) (ha : a < 16384) : nI (c * 16384 + a) &&& (16383 : Int32) = nI a := by
  rw [show (16383 : Int32) = nI 16383 from rfl, and_n, show (16383 : Nat) = 2 ^ 14 - 1 from rfl, Nat.and_two_pow_sub_one_eq_mod, show (c * 16384 + a) % 2 ^ 14 = a by omega]
def ST (a : Nat) (M : Mem) : List Int32 → Prop
  | [] => True
  | x :: r => M.1 a r.length = x ∧ ST a M r
theorem ST.of {a : Nat} : ∀ {s : List Int32}, ST a M s → (∀ q, q < s.length → M'.1 a q = M.1 a q) → ST a M' s
  | [], _, _ => trivial
  | x :: r, h, e => ⟨(e _ (by rw [List.length_cons]; omega)).trans h.1, ST.of h.2 (fun q hq => e q (by rw [List.length_cons]; omega))⟩
theorem ST.push {a : Nat} {s : List Int32} {x : Int32} (h : ST a M s) : ST a (sI M a s.length x) (x :: s) := ⟨sI_same, h.of (fun q hq => sI_ix (by omega))⟩
/-- stands at n with q steps behind, T the end -/
def RN (t n q T : Nat) (M : Mem) : Prop := M.1 t 9 = nI T ∧ T ≤ 407 ∧ n < T ∧ q ≤ n
theorem rn_h {fu h n q T : Nat} {c a : Nat} {A : Option (Int32 × Mem)} (R : RN t n q T M) (hc : M.1 (t + 9) n = nI (c * 16384 + a)) (hcc : c < 200) (ha : a < 16384) (e : (if nI c = (3 : Int32) then
            if nI h ≤ 0 then
              some ((0 : Int32), M)
            else
              (ag M (lw + 2) 24 (nI h - (1 : Int32))).bind fun v11 =>
              some (v11, M)
          else
            lt (
              if (24 : Int32) ≤ nI h then
                some ((0 : Int32), M)
              else
                lt (
                  (
                    if nI c = 0 then
                      some (nI a)
                    else
                      (ag M (lw + 1) 9 (nI a)).bind fun v17 =>
                      some v17
                  ).bind fun t15 =>
                  (pg M (lw + 2) 24 (nI h) t15).bind fun M18 =>
                  lt (nI h + 1 : Int32) fun v19 =>
                  lt (nI q + 1 : Int32) fun v20 =>
                  f_X2_run_L8 lw t k fu v19 (nI (n + 1)) v20 M18
                  ) fun j14 =>
                if nI c = (1 : Int32) then
                  if nI a < (9 : Int32) then
                    j14
                  else
                    some ((0 : Int32), M)
                else
                  j14
              ) fun j12 =>
            if nI c = 0 then
              j12
            else
              if nI c = (1 : Int32) then
                j12
              else
                if nI h < (2 : Int32) then
                  some ((0 : Int32), M)
                else
                  lt (
                    lt (nI h + (-1) : Int32) fun v27 =>
                    (ag M (lw + 2) 24 (v27 - (1 : Int32))).bind fun v28 =>
                    (ag M (lw + 2) 24 v27).bind fun v29 =>
                    if nI c = 42 then
                      (pg M (lw + 2) 24 (v27 - (1 : Int32)) (v28 * v29)).bind fun M31 =>
                      lt (nI q + 1 : Int32) fun v32 =>
                      f_X2_run_L8 lw t k fu v27 (nI (n + 1)) v32 M31
                    else
                    if nI c = 43 then
                      (pg M (lw + 2) 24 (v27 - (1 : Int32)) (v28 + v29)).bind fun M34 =>
                      lt (nI q + 1 : Int32) fun v35 =>
                      f_X2_run_L8 lw t k fu v27 (nI (n + 1)) v35 M34
                    else
                    if nI c = 45 then
                      (pg M (lw + 2) 24 (v27 - (1 : Int32)) (v28 - v29)).bind fun M37 =>
                      lt (nI q + 1 : Int32) fun v38 =>
                      f_X2_run_L8 lw t k fu v27 (nI (n + 1)) v38 M37
                    else
                    if nI c = 47 then
                      (
                        if v29 = 0 then
                          some (0 : Int32)
                        else
                          (dv v28 v29).bind fun v42 =>
                          some v42
                      ).bind fun t40 =>
                      (pg M (lw + 2) 24 (v27 - (1 : Int32)) t40).bind fun M43 =>
                      lt (nI q + 1 : Int32) fun v44 =>
                      f_X2_run_L8 lw t k fu v27 (nI (n + 1)) v44 M43
                    else
                    lt (v27 + (-1) : Int32) fun v45 =>
                    lt (
                      if v29 ≤ v28 then
                        nI a
                      else
                        nI (n + 1)
                     : Int32) fun t46 =>
                    lt (nI q + 1 : Int32) fun v48 =>
                    f_X2_run_L8 lw t k fu v45 t46 v48 M
                    ) fun j26 =>
                  if nI c = (47 : Int32) then
                    (ag M (lw + 2) 24 (nI h - (1 : Int32))).bind fun v50 =>
                    if v50 = 0 then
                      some ((0 : Int32), M)
                    else
                      j26
                  else
                    j26) = A) : f_X2_run_L8 lw t k (fu + 1) (nI h) (nI n) (nI q) M = A := by
  obtain ⟨r1, r2, r3, r4⟩ := R
  rw [f_X2_run_L8, li 407, if_neg (nI_ge (by omega) (by omega)), if_neg (nI_pos (by omega)), r1, if_neg (nI_ge (by omega) (by omega)), ag_n (by omega) (by omega), sb, lt_def, sb, lt_def, lt_def, hc, dec_1 hcc ha, dec_2 hcc ha, nI_1 n]
  exact e
theorem rn_0 {fu h n q T a : Nat} (R : RN t n q T M) (hc : M.1 (t + 9) n = nI (0 * 16384 + a)) (ha : a < 16384) (hh : h < 24) : f_X2_run_L8 lw t k (fu + 1) (nI h) (nI n) (nI q) M = f_X2_run_L8 lw t k fu (nI (h + 1)) (nI (n + 1)) (nI (q + 1)) (sI M (lw + 2) h (nI a)) := by
  refine rn_h (c := 0) (a := a) R hc (by omega) ha ?_
  rw [if_neg (show ¬ nI 0 = 3 by decide), lt_def, if_pos (show nI 0 = 0 from rfl), li 24, if_neg (nI_ge (by omega) (by omega)), lt_def, if_neg (show ¬ nI 0 = 1 by decide), if_pos (show nI 0 = 0 from rfl), sb, pg_n (by omega) (by omega), sb, lt_def, lt_def, nI_1 h, nI_1 q]
theorem rn_1 {fu h n q T a : Nat} (R : RN t n q T M) (hc : M.1 (t + 9) n = nI (1 * 16384 + a)) (ha : a < 9) (hh : h < 24) : f_X2_run_L8 lw t k (fu + 1) (nI h) (nI n) (nI q) M = f_X2_run_L8 lw t k fu (nI (h + 1)) (nI (n + 1)) (nI (q + 1)) (sI M (lw + 2) h (M.1 (lw + 1) a)) := by
  refine rn_h (c := 1) (a := a) R hc (by omega) (by omega) ?_
  rw [if_neg (show ¬ nI 1 = 3 by decide), lt_def, if_neg (show ¬ nI 1 = 0 by decide), if_pos (show nI 1 = 1 from rfl), li 24, if_neg (nI_ge (by omega) (by omega)), lt_def, if_pos (show nI 1 = 1 from rfl), li 9, if_pos (nI_lt ha (by omega)), if_neg (show ¬ nI 1 = 0 by decide), ag_n (by omega) (by omega), sb, sb, pg_n (by omega) (by omega), sb, lt_def, lt_def, nI_1 h, nI_1 q]
theorem rn_3 {fu h n q T : Nat} (R : RN t n q T M) (hc : M.1 (t + 9) n = nI (3 * 16384 + 0)) (hh : h < 24) : f_X2_run_L8 lw t k (fu + 1) (nI (h + 1)) (nI n) (nI q) M = some (M.1 (lw + 2) h, M) := by
  refine rn_h (c := 3) (a := 0) R hc (by omega) (by omega) ?_
  rw [if_pos (show nI 3 = 3 from rfl), if_neg (nI_nle (by omega) (by omega)), nI_pred, ag_n (by omega) (by omega), sb]
theorem rn_2 {fu h n q T a : Nat} (R : RN t n q T M) (hc : M.1 (t + 9) n = nI (2 * 16384 + a)) (ha : a < 16384) (hh : h + 2 ≤ 24) : f_X2_run_L8 lw t k (fu + 1) (nI (h + 2)) (nI n) (nI q) M = f_X2_run_L8 lw t k fu (nI h) (if M.1 (lw + 2) (h + 1) ≤ M.1 (lw + 2) h then nI a else nI (n + 1)) (nI (q + 1)) M := by
  refine rn_h (c := 2) (a := a) R hc (by omega) ha ?_
  rw [if_neg (show ¬ nI 2 = 3 by decide), lt_def, if_neg (show ¬ nI 2 = 0 by decide), if_neg (show ¬ nI 2 = 1 by decide), if_neg (show ¬ nI (h + 2) < 2 from nI_nlt (b := 2) (by omega) (by omega)), lt_def, if_neg (show ¬ nI 2 = 47 by decide), nI_m1, lt_def, nI_pred, ag_n (i := h) (by omega) (by omega), sb, ag_n (by omega) (by omega), sb, if_neg (show ¬ nI 2 = 42 by decide), if_neg (show ¬ nI 2 = 43 by decide), if_neg (show ¬ nI 2 = 45 by decide), if_neg (show ¬ nI 2 = 47 by decide), lt_def, lt_def, lt_def, nI_m1, nI_1 q]
theorem rn_o {fu h n q T c : Nat} (R : RN t n q T M) (hc : M.1 (t + 9) n = nI (ccN c * 16384 + 0)) (h2 : 2 ≤ c) (h5 : c ≤ 5) (hh : h + 2 ≤ 24) : f_X2_run_L8 lw t k (fu + 1) (nI (h + 2)) (nI n) (nI q) M = if c = 5 ∧ M.1 (lw + 2) (h + 1) = 0 then some (0, M) else f_X2_run_L8 lw t k fu (nI (h + 1)) (nI (n + 1)) (nI (q + 1)) (sI M (lw + 2) h (apO c (M.1 (lw + 2) h) (M.1 (lw + 2) (h + 1)))) := by
  rcases (by omega : c = 2 ∨ c = 3 ∨ c = 4 ∨ c = 5) with z | z | z | z <;> subst z
  · rw [show ccN 2 = 43 from rfl] at hc
    refine rn_h (c := 43) (a := 0) R hc (by omega) (by omega) ?_
    rw [if_neg (show ¬ nI 43 = 3 by decide), lt_def, if_neg (show ¬ nI 43 = 0 by decide), if_neg (show ¬ nI 43 = 1 by decide), if_neg (show ¬ nI (h + 2) < 2 from nI_nlt (b := 2) (by omega) (by omega)), lt_def, if_neg (show ¬ nI 43 = 47 by decide), nI_m1, lt_def, nI_pred, ag_n (i := h) (by omega) (by omega), sb, ag_n (by omega) (by omega), sb, if_neg (show ¬ nI 43 = 42 by decide), if_pos (show nI 43 = 43 from rfl), pg_n (by omega) (by omega), sb, lt_def, nI_1 q, if_neg (by omega)]
    rfl
  · rw [show ccN 3 = 45 from rfl] at hc
    refine rn_h (c := 45) (a := 0) R hc (by omega) (by omega) ?_
    rw [if_neg (show ¬ nI 45 = 3 by decide), lt_def, if_neg (show ¬ nI 45 = 0 by decide), if_neg (show ¬ nI 45 = 1 by decide), if_neg (show ¬ nI (h + 2) < 2 from nI_nlt (b := 2) (by omega) (by omega)), lt_def, if_neg (show ¬ nI 45 = 47 by decide), nI_m1, lt_def, nI_pred, ag_n (i := h) (by omega) (by omega), sb, ag_n (by omega) (by omega), sb, if_neg (show ¬ nI 45 = 42 by decide), if_neg (show ¬ nI 45 = 43 by decide), if_pos (show nI 45 = 45 from rfl), pg_n (by omega) (by omega), sb, lt_def, nI_1 q, if_neg (by omega)]
    rfl
  · rw [show ccN 4 = 42 from rfl] at hc
    refine rn_h (c := 42) (a := 0) R hc (by omega) (by omega) ?_
    rw [if_neg (show ¬ nI 42 = 3 by decide), lt_def, if_neg (show ¬ nI 42 = 0 by decide), if_neg (show ¬ nI 42 = 1 by decide), if_neg (show ¬ nI (h + 2) < 2 from nI_nlt (b := 2) (by omega) (by omega)), lt_def, if_neg (show ¬ nI 42 = 47 by decide), nI_m1, lt_def, nI_pred, ag_n (i := h) (by omega) (by omega), sb, ag_n (by omega) (by omega), sb, if_pos (show nI 42 = 42 from rfl), pg_n (by omega) (by omega), sb, lt_def, nI_1 q, if_neg (by omega)]
    rfl
  · rw [show ccN 5 = 47 from rfl] at hc
    refine rn_h (c := 47) (a := 0) R hc (by omega) (by omega) ?_
    rw [if_neg (show ¬ nI 47 = 3 by decide), lt_def, if_neg (show ¬ nI 47 = 0 by decide), if_neg (show ¬ nI 47 = 1 by decide), if_neg (show ¬ nI (h + 2) < 2 from nI_nlt (b := 2) (by omega) (by omega)), lt_def, if_pos (show nI 47 = 47 from rfl), nI_pred, ag_n (i := h + 1) (by omega) (by omega), sb]
    by_cases z : M.1 (lw + 2) (h + 1) = 0
    · rw [if_pos z, if_pos ⟨rfl, z⟩]
    · rw [if_neg z, nI_m1, lt_def, nI_pred, ag_n (i := h) (by omega) (by omega), sb, ag_n (by omega) (by omega), sb, if_neg (show ¬ nI 47 = 42 by decide), if_neg (show ¬ nI 47 = 43 by decide), if_neg (show ¬ nI 47 = 45 by decide), if_pos (show nI 47 = 47 from rfl), if_neg z, if_neg (fun a => z a.2)]
      unfold dv
      rw [if_neg z, sb, sb, pg_n (by omega) (by omega), sb, lt_def, nI_1 q]
      rfl
end CRUN

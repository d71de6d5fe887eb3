-- 11.help: small words of the generated rows
def FU : Nat := 1000000
theorem p_t {α : Sort _} {c : Prop} [Decidable c] {a b r : α} (hc : c) (h : (if c then a else b) = r) : a = r := (if_pos hc).symm.trans h
theorem p_f {α : Sort _} {c : Prop} [Decidable c] {a b r : α} (hc : ¬ c) (h : (if c then a else b) = r) : b = r := (if_neg hc).symm.trans h
theorem e_t {α : Sort _} {c : Prop} [Decidable c] {a b r : α} (hc : c) (h : r = if c then a else b) : r = a := h.trans (if_pos hc)
theorem e_f {α : Sort _} {c : Prop} [Decidable c] {a b r : α} (hc : ¬ c) (h : r = if c then a else b) : r = b := h.trans (if_neg hc)
theorem e_lt {α β : Type} {a : α} {f : α → β} {t : β} (h : t = lt a f) : ∃ v, v = a ∧ t = f v := ⟨a, rfl, h⟩
theorem neI {x c : Int32} (h : ¬ x = c) : x.toInt ≠ c.toInt := fun e => h (Int32.toInt_inj.mp e)
def neL : List Int32 → Int32 → Prop
  | [], _ => True
  | c :: l, x => x.toInt ≠ c.toInt ∧ neL l x
theorem neL_at : ∀ (l : List Int32) (x : Int32), neL l x → ∀ z : Int, (l.map Int32.toInt).contains z = true → x.toInt ≠ z
  | [], x, _, z, h => by simp at h
  | c :: l, x, hn, z, h => by
    simp only [List.map_cons, List.contains_cons, Bool.or_eq_true, beq_iff_eq] at h
    rcases h with h | h
    · rw [h]; exact hn.1
    · exact neL_at l x hn.2 z h
theorem y_alenJ {g : GG} {i : MI} {d : Nat} {res : Option RS} {P : PT} {pc : Nat} {ls : List (Option Value)} {st : List Value} {M : Mem} (hP : IsM g i d res P) {id n : Nat} {v : Int32} (hL : LAY[id]? = some (.inl (.long, n))) (hv : Int32.ofNat n = v) (hd : decode i.2.1 pc = .ok (.arraylength, 1)) (k : P (pc + 1) ls (.int v :: st) LAY M) : P pc ls (.ref id :: st) LAY M := x_alen hP hL ⟨1, rfl⟩ hd (hv ▸ k)
section SWR
variable {g : GG} {i : MI} {d nc ns : Nat} {res : Option RS} {P : PT} {pc : Nat} {ls : List (Option Value)} {st : List Value} {L : List Lay} {M : Mem}
theorem x_tswE (hP : IsW g i d nc ns res P) {dflt lo hi : Int} {offs : Array Int} {len : Nat} {x c : Int32} {off : Int} {tgt : Nat} (hd : decode i.2.1 pc = .ok (.tableswitch dflt lo hi offs, len)) (hx : x = c) (h1 : ¬ c.toInt < lo) (h2 : ¬ hi < c.toInt) (ho : offs[(c.toInt - lo).toNat]? = some off) (ht : (pc : Int) + off = (tgt : Int)) (k : P tgt ls st L M) : P pc ls (.int x :: st) L M := by
  subst hx
  exact x_tableIn hP hd h1 h2 ho ht k
theorem x_tswD (hP : IsW g i d nc ns res P) {dflt lo hi : Int} {offs : Array Int} {len : Nat} {x : Int32} {tgt : Nat} (hd : decode i.2.1 pc = .ok (.tableswitch dflt lo hi offs, len)) (es : List Int32) (hes : neL es x) (hcov : (List.range offs.size).all (fun j => offs[j]? == some dflt || (es.map Int32.toInt).contains (lo + (j : Int))) = true) (hhi : hi = lo + (offs.size : Int) - 1) (ht : (pc : Int) + dflt = (tgt : Int)) (k : P tgt ls st L M) : P pc ls (.int x :: st) L M := by
  by_cases h : x.toInt < lo ∨ hi < x.toInt
  · exact x_tableOut hP hd h ht k
  · have h1 : ¬ x.toInt < lo := fun z => h (Or.inl z)
    have h2 : ¬ hi < x.toInt := fun z => h (Or.inr z)
    have hj : (x.toInt - lo).toNat < offs.size := by omega
    have hc := List.all_eq_true.mp hcov _ (List.mem_range.mpr hj)
    simp only [Bool.or_eq_true, beq_iff_eq] at hc
    rcases hc with hc | hc
    · exact x_tableIn hP hd h1 h2 hc ht k
    · exact absurd (by omega) (neL_at es x hes _ hc)
theorem x_lkE (hP : IsW g i d nc ns res P) {dflt : Int} {ps : Array (Int × Int)} {len : Nat} {x c : Int32} {off : Int} {tgt : Nat} (hd : decode i.2.1 pc = .ok (.lookupswitch dflt ps, len)) (hx : x = c) (hp : (ps.toList.zip (ps.toList.drop 1)).all (fun (a, next) => a.1 < next.1) = true) (ho : Op.lookupswitch.offset ps.toList dflt c.toInt = off) (ht : (pc : Int) + off = (tgt : Int)) (k : P tgt ls st L M) : P pc ls (.int x :: st) L M := by
  subst hx
  exact x_lookup hP hd hp ho ht k
theorem lk_none : ∀ (l : List (Int × Int)) (d v : Int), (∀ q ∈ l, q.1 ≠ v) → Op.lookupswitch.offset l d v = d
  | [], d, v, _ => rfl
  | (a, o) :: l, d, v, h => by
    rw [Op.lookupswitch.offset_cons, if_neg (h (a, o) List.mem_cons_self)]
    exact lk_none l d v (fun q hq => h q (List.mem_cons_of_mem _ hq))
theorem x_lkD (hP : IsW g i d nc ns res P) {dflt : Int} {ps : Array (Int × Int)} {len : Nat} {x : Int32} {tgt : Nat} (hd : decode i.2.1 pc = .ok (.lookupswitch dflt ps, len)) (es : List Int32) (hes : neL es x) (hcov : ps.toList.all (fun q => (es.map Int32.toInt).contains q.1) = true) (hp : (ps.toList.zip (ps.toList.drop 1)).all (fun (a, next) => a.1 < next.1) = true) (ht : (pc : Int) + dflt = (tgt : Int)) (k : P tgt ls st L M) : P pc ls (.int x :: st) L M := by
  refine x_lookup hP hd hp (lk_none _ _ _ fun q hq => ?_) ht k
  have := List.all_eq_true.mp hcov q hq
  exact fun e => neL_at es x hes _ this e.symm
end SWR

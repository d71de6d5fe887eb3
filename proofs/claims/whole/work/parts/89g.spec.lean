-- 89g.spec: pure: what a tell does, in one picture for the class and the reference
/-- how far one has read: token, town, names (with their corner, or 10), laws, the first later fault (0: none) and its place -/
abbrev TSt := Nat × (Nat → Nat → Nat) × List (Int64 × Nat) × (Nat → List (Cd × Cd × Cd)) × (Nat → Cd) × (Nat × Nat)
def upT (τ : Nat → Nat → Nat) (f k x : Nat) : Nat → Nat → Nat := fun f' k' => if f' = f ∧ k' = k then x else τ f' k'
def lfU (lf : Nat × Nat) (c : Bool) (f p : Nat) : Nat × Nat := if lf.1 = 0 ∧ c = true then (f, p) else lf
def lkN (nm : List (Int64 × Nat)) (x : Int64) : Bool := nm.any (fun p => p.1 == x)
def lkM (nm : List (Int64 × Nat)) (x : Int64) : Option Nat := (nm.find? (fun p => p.1 == x && decide (p.2 < 10))).map (·.2)
section SPT
variable (K V P : Nat → Nat) (N : Nat → Int64)
/-- a corner named at token i; a number from a to b -/
def cnS (nm : List (Int64 × Nat)) (i : Nat) (lf : Nat × Nat) : Nat × Nat := lfU lf (lkM nm (N i)).isNone 4 (P i)
def inS (a b i : Nat) (lf : Nat × Nat) : Nat × Nat := lfU lf (decide (V i < a) || decide (b < V i)) 5 (P i)
def tlC (s : TSt) : Except (Nat × Nat) TSt := if 7 ≤ tC s.2.1 then .error (2, s.1) else (exK K 20 s.1).bind fun i1 => (exK K 1 i1).bind fun i2 => (exK K 4 i2).bind fun i3 => .ok (i3, upT s.2.1 0 0 (tC s.2.1 + 1), s.2.2.1 ++ [(N i1, tC s.2.1)], s.2.2.2.1, s.2.2.2.2.1, lfU s.2.2.2.2.2 (lkN s.2.2.1 (N i1)) 3 (P i1))
def tlR' (s : TSt) : Except (Nat × Nat) TSt := if 10 ≤ tS s.2.1 then .error (2, s.1) else (exK K 21 s.1).bind fun i1 => (exK K 1 i1).bind fun i2 => (exK K 1 i2).bind fun i3 => (exK K 2 i3).bind fun i4 => (exK K 4 i4).bind fun i5 => .ok (i5, upT (upT (upT (upT s.2.1 1 (tS s.2.1) ((lkM s.2.2.1 (N i1)).getD 0)) 2 (tS s.2.1) ((lkM s.2.2.1 (N i2)).getD 0)) 3 (tS s.2.1) (V i3)) 0 1 (tS s.2.1 + 1), s.2.2.1, s.2.2.2.1, s.2.2.2.2.1, inS V P 1 99 i3 (lfU (cnS P N s.2.2.1 i2 (cnS P N s.2.2.1 i1 s.2.2.2.2.2)) ((lkM s.2.2.1 (N i1)).isSome && (lkM s.2.2.1 (N i1) == lkM s.2.2.1 (N i2))) 3 (P i2)))
def tlY (s : TSt) : Except (Nat × Nat) TSt := if 6 ≤ tY s.2.1 then .error (2, s.1) else (exK K 22 s.1).bind fun i1 => (exK K 1 i1).bind fun i2 => (exK K 2 i2).bind fun i3 => (exK K 2 i3).bind fun i4 => (exK K 1 i4).bind fun i5 => (exK K 4 i5).bind fun i6 => .ok (i6, upT (upT (upT (upT s.2.1 4 (tY s.2.1) (V i2)) 5 (tY s.2.1) (V i3)) 6 (tY s.2.1) ((lkM s.2.2.1 (N i4)).getD 0)) 0 2 (tY s.2.1 + 1), s.2.2.1 ++ [(N i1, 10)], s.2.2.2.1, s.2.2.2.2.1, cnS P N s.2.2.1 i4 (inS V P 0 9 i3 (inS V P 10 40 i2 (lfU s.2.2.2.2.2 (lkN s.2.2.1 (N i1)) 3 (P i1)))))
def tlW (s : TSt) : Except (Nat × Nat) TSt := if 5 ≤ tW s.2.1 then .error (2, s.1) else (exK K 23 s.1).bind fun i1 => (exK K 1 i1).bind fun i2 => (exK K 2 i2).bind fun i3 => (exK K 4 i3).bind fun i4 => .ok (i4, upT (upT s.2.1 7 (tW s.2.1) (V i2)) 0 3 (tW s.2.1 + 1), s.2.2.1 ++ [(N i1, 10)], s.2.2.2.1, s.2.2.2.2.1, inS V P 0 99 i2 (lfU s.2.2.2.2.2 (lkN s.2.2.1 (N i1)) 3 (P i1)))
def tlB (s : TSt) : Except (Nat × Nat) TSt := (exK K 24 s.1).bind fun i1 => (exK K 1 i1).bind fun i2 => (exK K 4 i2).bind fun i3 => .ok (i3, upT s.2.1 0 6 ((lkM s.2.2.1 (N i1)).getD 0), s.2.2.1, s.2.2.2.1, s.2.2.2.2.1, cnS P N s.2.2.1 i1 s.2.2.2.2.2)
def tlI (k f b : Nat) (s : TSt) : Except (Nat × Nat) TSt := (exK K k s.1).bind fun i1 => (exK K 2 i1).bind fun i2 => (exK K 4 i2).bind fun i3 => .ok (i3, upT s.2.1 0 f (V i1), s.2.2.1, s.2.2.2.1, s.2.2.2.2.1, inS V P 0 b i1 s.2.2.2.2.2)
def tlL (x : Nat) (s : TSt) : Except (Nat × Nat) TSt := (lwHT K V x s.1).bind fun r => .ok (r.2.2, s.2.1, s.2.2.1, fun k => if k = x then r.1 else s.2.2.2.1 k, fun k => if k = x then r.2.1 else s.2.2.2.2.1 k, s.2.2.2.2.2)
def tlS (s : TSt) : Except (Nat × Nat) TSt := if K s.1 = 20 then tlC K P N s else if K s.1 = 21 then tlR' K V P N s else if K s.1 = 22 then tlY K V P N s else if K s.1 = 23 then tlW K V P N s else if K s.1 = 24 then tlB K P N s else if K s.1 = 29 then tlI K V P 29 4 100 s else if K s.1 = 30 then tlI K V P 30 5 9999 s else if 25 ≤ K s.1 ∧ K s.1 ≤ 28 then tlL K V (K s.1 - 25) s else .error (1, s.1)
/-- all tells, until the end of the tape -/
def tlA : Nat → TSt → Except (Nat × Nat) TSt
  | 0, s => .ok s
  | m + 1, s => if K s.1 = 0 then .ok s else (tlS K V P N s).bind fun s' => tlA m s'
end SPT

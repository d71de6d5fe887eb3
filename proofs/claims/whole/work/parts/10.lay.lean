-- 10.lay: the cells that both constructors make, what stands where; the words of the pure functions (by program: emit_lay.py)
def LAY : List Lay := [.inr (11, [some 21, some 23, some 31, some 34, some 45, some 48, some 53, some 57, some 60, none, none, none]), .inr (9, [some 2, some 3, some 4, some 5, some 6, some 7, some 8, some 9, some 10, none, none, none, none, none, none, none, none]), .inl (.int, 10), .inl (.int, 10), .inl (.int, 10), .inl (.int, 6), .inl (.int, 6), .inl (.int, 6), .inl (.int, 5), .inl (.int, 4), .inl (.int, 407), .inr (9, [some 12, some 13, some 14, some 15, some 16, some 17, some 18, some 19, some 20, none, none, none, none, none, none, none, none]), .inl (.int, 10), .inl (.int, 10), .inl (.int, 10), .inl (.int, 6), .inl (.int, 6), .inl (.int, 6), .inl (.int, 5), .inl (.int, 4), .inl (.int, 407), .inr (7, [some 22, none]), .inl (.byte, 2000), .inr (6, [none, some 24, some 29, some 30, none, none, none, none, none, none]), .inr (8, [some 25, some 26, some 27, some 28]), .inl (.int, 401), .inl (.int, 401), .inl (.long, 401), .inl (.long, 23), .inl (.long, 18), .inl (.int, 18), .inr (2, [some 32, some 33]), .inl (.int, 9), .inl (.int, 24), .inr (0, [some 35, some 38]), .inr (2, [some 36, some 37]), .inl (.int, 9), .inl (.int, 24), .inr (3, [none, none, none, none, none, some 39, some 40, some 41, some 42, some 43, some 44]), .inl (.int, 6), .inl (.int, 6), .inl (.int, 6), .inl (.int, 6), .inl (.int, 5), .inl (.int, 5), .inr (10, [some 46, some 47]), .inl (.int, 7), .inl (.int, 49), .inr (5, [some 49, none, none, some 50, some 51, some 52, none]), .inl (.int, 6), .inl (.int, 7), .inl (.int, 7), .inl (.int, 6), .inr (1, [none, some 54, some 55, some 56]), .inl (.int, 20), .inl (.int, 20), .inl (.int, 20), .inr (4, [none, none, some 58, some 59, none]), .inl (.int, 1520), .inl (.int, 114), .inr (3, [none, none, none, none, none, some 61, some 62, some 63, some 64, some 65, some 66]), .inl (.int, 6), .inl (.int, 6), .inl (.int, 6), .inl (.int, 6), .inl (.int, 5), .inl (.int, 5), .inr (12, [none, some 68, none, some 69, none, some 70, some 71, some 72, some 73, some 74, none, none, none, none, none, none, none, none, none, none, none, some 75, some 76, some 77, some 78, some 79, some 80, some 81, some 82, some 83, some 84, some 85, some 86, some 87, some 88, some 89, some 90, some 91, some 92, none, some 93, some 94, some 95, some 96, some 97, none, some 98, some 99, some 100, none, some 101, some 102, none, some 103, some 104, none, none, some 105, some 106, some 107, none, some 108, some 109, some 110, some 111, some 112, none, some 113, some 114, some 115, some 116, some 117]), .inl (.byte, 2000), .inl (.byte, 2000), .inl (.int, 403), .inl (.int, 403), .inl (.int, 403), .inl (.long, 403), .inl (.long, 23), .inl (.long, 18), .inl (.int, 18), .inl (.int, 2), .inl (.int, 2), .inl (.int, 20), .inl (.int, 20), .inl (.int, 20), .inl (.int, 2), .inl (.int, 12), .inl (.int, 12), .inl (.int, 12), .inl (.int, 2), .inl (.int, 10), .inl (.int, 2), .inl (.int, 2), .inl (.int, 2), .inl (.int, 8), .inl (.int, 8), .inl (.boolean, 260), .inl (.int, 260), .inl (.int, 260), .inl (.int, 260), .inl (.int, 260), .inl (.int, 840), .inl (.int, 840), .inl (.int, 64), .inl (.int, 9), .inl (.int, 400), .inl (.int, 48), .inl (.int, 48), .inl (.int, 6), .inl (.boolean, 6), .inl (.int, 12), .inl (.int, 1920), .inl (.int, 6), .inl (.int, 7), .inl (.int, 896), .inl (.int, 49), .inl (.int, 20), .inl (.int, 20), .inl (.boolean, 20), .inl (.boolean, 3), .inl (.int, 144)]
theorem lay0 : LAY[0]? = some (.inr (11, [some 21, some 23, some 31, some 34, some 45, some 48, some 53, some 57, some 60, none, none, none])) := rfl
theorem lay1 : LAY[1]? = some (.inr (9, [some 2, some 3, some 4, some 5, some 6, some 7, some 8, some 9, some 10, none, none, none, none, none, none, none, none])) := rfl
theorem lay2 : LAY[2]? = some (.inl (.int, 10)) := rfl
theorem lay3 : LAY[3]? = some (.inl (.int, 10)) := rfl
theorem lay4 : LAY[4]? = some (.inl (.int, 10)) := rfl
theorem lay5 : LAY[5]? = some (.inl (.int, 6)) := rfl
theorem lay6 : LAY[6]? = some (.inl (.int, 6)) := rfl
theorem lay7 : LAY[7]? = some (.inl (.int, 6)) := rfl
theorem lay8 : LAY[8]? = some (.inl (.int, 5)) := rfl
theorem lay9 : LAY[9]? = some (.inl (.int, 4)) := rfl
theorem lay10 : LAY[10]? = some (.inl (.int, 407)) := rfl
theorem lay11 : LAY[11]? = some (.inr (9, [some 12, some 13, some 14, some 15, some 16, some 17, some 18, some 19, some 20, none, none, none, none, none, none, none, none])) := rfl
theorem lay12 : LAY[12]? = some (.inl (.int, 10)) := rfl
theorem lay13 : LAY[13]? = some (.inl (.int, 10)) := rfl
theorem lay14 : LAY[14]? = some (.inl (.int, 10)) := rfl
theorem lay15 : LAY[15]? = some (.inl (.int, 6)) := rfl
theorem lay16 : LAY[16]? = some (.inl (.int, 6)) := rfl
theorem lay17 : LAY[17]? = some (.inl (.int, 6)) := rfl
theorem lay18 : LAY[18]? = some (.inl (.int, 5)) := rfl
theorem lay19 : LAY[19]? = some (.inl (.int, 4)) := rfl
theorem lay20 : LAY[20]? = some (.inl (.int, 407)) := rfl
theorem lay21 : LAY[21]? = some (.inr (7, [some 22, none])) := rfl
theorem lay22 : LAY[22]? = some (.inl (.byte, 2000)) := rfl
theorem lay23 : LAY[23]? = some (.inr (6, [none, some 24, some 29, some 30, none, none, none, none, none, none])) := rfl
theorem lay24 : LAY[24]? = some (.inr (8, [some 25, some 26, some 27, some 28])) := rfl
theorem lay25 : LAY[25]? = some (.inl (.int, 401)) := rfl
theorem lay26 : LAY[26]? = some (.inl (.int, 401)) := rfl
theorem lay27 : LAY[27]? = some (.inl (.long, 401)) := rfl
theorem lay28 : LAY[28]? = some (.inl (.long, 23)) := rfl
theorem lay29 : LAY[29]? = some (.inl (.long, 18)) := rfl
theorem lay30 : LAY[30]? = some (.inl (.int, 18)) := rfl
theorem lay31 : LAY[31]? = some (.inr (2, [some 32, some 33])) := rfl
theorem lay32 : LAY[32]? = some (.inl (.int, 9)) := rfl
theorem lay33 : LAY[33]? = some (.inl (.int, 24)) := rfl
theorem lay34 : LAY[34]? = some (.inr (0, [some 35, some 38])) := rfl
theorem lay35 : LAY[35]? = some (.inr (2, [some 36, some 37])) := rfl
theorem lay36 : LAY[36]? = some (.inl (.int, 9)) := rfl
theorem lay37 : LAY[37]? = some (.inl (.int, 24)) := rfl
theorem lay38 : LAY[38]? = some (.inr (3, [none, none, none, none, none, some 39, some 40, some 41, some 42, some 43, some 44])) := rfl
theorem lay39 : LAY[39]? = some (.inl (.int, 6)) := rfl
theorem lay40 : LAY[40]? = some (.inl (.int, 6)) := rfl
theorem lay41 : LAY[41]? = some (.inl (.int, 6)) := rfl
theorem lay42 : LAY[42]? = some (.inl (.int, 6)) := rfl
theorem lay43 : LAY[43]? = some (.inl (.int, 5)) := rfl
theorem lay44 : LAY[44]? = some (.inl (.int, 5)) := rfl
theorem lay45 : LAY[45]? = some (.inr (10, [some 46, some 47])) := rfl
theorem lay46 : LAY[46]? = some (.inl (.int, 7)) := rfl
theorem lay47 : LAY[47]? = some (.inl (.int, 49)) := rfl
theorem lay48 : LAY[48]? = some (.inr (5, [some 49, none, none, some 50, some 51, some 52, none])) := rfl
theorem lay49 : LAY[49]? = some (.inl (.int, 6)) := rfl
theorem lay50 : LAY[50]? = some (.inl (.int, 7)) := rfl
theorem lay51 : LAY[51]? = some (.inl (.int, 7)) := rfl
theorem lay52 : LAY[52]? = some (.inl (.int, 6)) := rfl
theorem lay53 : LAY[53]? = some (.inr (1, [none, some 54, some 55, some 56])) := rfl
theorem lay54 : LAY[54]? = some (.inl (.int, 20)) := rfl
theorem lay55 : LAY[55]? = some (.inl (.int, 20)) := rfl
theorem lay56 : LAY[56]? = some (.inl (.int, 20)) := rfl
theorem lay57 : LAY[57]? = some (.inr (4, [none, none, some 58, some 59, none])) := rfl
theorem lay58 : LAY[58]? = some (.inl (.int, 1520)) := rfl
theorem lay59 : LAY[59]? = some (.inl (.int, 114)) := rfl
theorem lay60 : LAY[60]? = some (.inr (3, [none, none, none, none, none, some 61, some 62, some 63, some 64, some 65, some 66])) := rfl
theorem lay61 : LAY[61]? = some (.inl (.int, 6)) := rfl
theorem lay62 : LAY[62]? = some (.inl (.int, 6)) := rfl
theorem lay63 : LAY[63]? = some (.inl (.int, 6)) := rfl
theorem lay64 : LAY[64]? = some (.inl (.int, 6)) := rfl
theorem lay65 : LAY[65]? = some (.inl (.int, 5)) := rfl
theorem lay66 : LAY[66]? = some (.inl (.int, 5)) := rfl
theorem lay67 : LAY[67]? = some (.inr (12, [none, some 68, none, some 69, none, some 70, some 71, some 72, some 73, some 74, none, none, none, none, none, none, none, none, none, none, none, some 75, some 76, some 77, some 78, some 79, some 80, some 81, some 82, some 83, some 84, some 85, some 86, some 87, some 88, some 89, some 90, some 91, some 92, none, some 93, some 94, some 95, some 96, some 97, none, some 98, some 99, some 100, none, some 101, some 102, none, some 103, some 104, none, none, some 105, some 106, some 107, none, some 108, some 109, some 110, some 111, some 112, none, some 113, some 114, some 115, some 116, some 117])) := rfl
theorem lay68 : LAY[68]? = some (.inl (.byte, 2000)) := rfl
theorem lay69 : LAY[69]? = some (.inl (.byte, 2000)) := rfl
theorem lay70 : LAY[70]? = some (.inl (.int, 403)) := rfl
theorem lay71 : LAY[71]? = some (.inl (.int, 403)) := rfl
theorem lay72 : LAY[72]? = some (.inl (.int, 403)) := rfl
theorem lay73 : LAY[73]? = some (.inl (.long, 403)) := rfl
theorem lay74 : LAY[74]? = some (.inl (.long, 23)) := rfl
theorem lay75 : LAY[75]? = some (.inl (.long, 18)) := rfl
theorem lay76 : LAY[76]? = some (.inl (.int, 18)) := rfl
theorem lay77 : LAY[77]? = some (.inl (.int, 2)) := rfl
theorem lay78 : LAY[78]? = some (.inl (.int, 2)) := rfl
theorem lay79 : LAY[79]? = some (.inl (.int, 20)) := rfl
theorem lay80 : LAY[80]? = some (.inl (.int, 20)) := rfl
theorem lay81 : LAY[81]? = some (.inl (.int, 20)) := rfl
theorem lay82 : LAY[82]? = some (.inl (.int, 2)) := rfl
theorem lay83 : LAY[83]? = some (.inl (.int, 12)) := rfl
theorem lay84 : LAY[84]? = some (.inl (.int, 12)) := rfl
theorem lay85 : LAY[85]? = some (.inl (.int, 12)) := rfl
theorem lay86 : LAY[86]? = some (.inl (.int, 2)) := rfl
theorem lay87 : LAY[87]? = some (.inl (.int, 10)) := rfl
theorem lay88 : LAY[88]? = some (.inl (.int, 2)) := rfl
theorem lay89 : LAY[89]? = some (.inl (.int, 2)) := rfl
theorem lay90 : LAY[90]? = some (.inl (.int, 2)) := rfl
theorem lay91 : LAY[91]? = some (.inl (.int, 8)) := rfl
theorem lay92 : LAY[92]? = some (.inl (.int, 8)) := rfl
theorem lay93 : LAY[93]? = some (.inl (.boolean, 260)) := rfl
theorem lay94 : LAY[94]? = some (.inl (.int, 260)) := rfl
theorem lay95 : LAY[95]? = some (.inl (.int, 260)) := rfl
theorem lay96 : LAY[96]? = some (.inl (.int, 260)) := rfl
theorem lay97 : LAY[97]? = some (.inl (.int, 260)) := rfl
theorem lay98 : LAY[98]? = some (.inl (.int, 840)) := rfl
theorem lay99 : LAY[99]? = some (.inl (.int, 840)) := rfl
theorem lay100 : LAY[100]? = some (.inl (.int, 64)) := rfl
theorem lay101 : LAY[101]? = some (.inl (.int, 9)) := rfl
theorem lay102 : LAY[102]? = some (.inl (.int, 400)) := rfl
theorem lay103 : LAY[103]? = some (.inl (.int, 48)) := rfl
theorem lay104 : LAY[104]? = some (.inl (.int, 48)) := rfl
theorem lay105 : LAY[105]? = some (.inl (.int, 6)) := rfl
theorem lay106 : LAY[106]? = some (.inl (.boolean, 6)) := rfl
theorem lay107 : LAY[107]? = some (.inl (.int, 12)) := rfl
theorem lay108 : LAY[108]? = some (.inl (.int, 1920)) := rfl
theorem lay109 : LAY[109]? = some (.inl (.int, 6)) := rfl
theorem lay110 : LAY[110]? = some (.inl (.int, 7)) := rfl
theorem lay111 : LAY[111]? = some (.inl (.int, 896)) := rfl
theorem lay112 : LAY[112]? = some (.inl (.int, 49)) := rfl
theorem lay113 : LAY[113]? = some (.inl (.int, 20)) := rfl
theorem lay114 : LAY[114]? = some (.inl (.int, 20)) := rfl
theorem lay115 : LAY[115]? = some (.inl (.boolean, 20)) := rfl
theorem lay116 : LAY[116]? = some (.inl (.boolean, 3)) := rfl
theorem lay117 : LAY[117]? = some (.inl (.int, 144)) := rfl
def isT (t : Nat) : Prop := t = 1 ∨ t = 11
def isN (t : Nat) : Prop := t = 38 ∨ t = 60
def isL (t : Nat) : Prop := t = 31 ∨ t = 35
theorem isT_1 : isT 1 := Or.inl rfl
theorem isT_11 : isT 11 := Or.inr rfl
theorem isN_38 : isN 38 := Or.inl rfl
theorem isN_60 : isN 60 := Or.inr rfl
theorem isL_31 : isL 31 := Or.inl rfl
theorem isL_35 : isL 35 := Or.inr rfl
theorem layT {t : Nat} (h : isT t) : LAY[t]? = some (.inr (9, [some (t + 1), some (t + 2), some (t + 3), some (t + 4), some (t + 5), some (t + 6), some (t + 7), some (t + 8), some (t + 9), none, none, none, none, none, none, none, none])) := by rcases h with rfl | rfl <;> rfl
theorem layT_1 {t : Nat} (h : isT t) : LAY[t + 1]? = some (.inl (.int, 10)) := by rcases h with rfl | rfl <;> rfl
theorem layT_2 {t : Nat} (h : isT t) : LAY[t + 2]? = some (.inl (.int, 10)) := by rcases h with rfl | rfl <;> rfl
theorem layT_3 {t : Nat} (h : isT t) : LAY[t + 3]? = some (.inl (.int, 10)) := by rcases h with rfl | rfl <;> rfl
theorem layT_4 {t : Nat} (h : isT t) : LAY[t + 4]? = some (.inl (.int, 6)) := by rcases h with rfl | rfl <;> rfl
theorem layT_5 {t : Nat} (h : isT t) : LAY[t + 5]? = some (.inl (.int, 6)) := by rcases h with rfl | rfl <;> rfl
theorem layT_6 {t : Nat} (h : isT t) : LAY[t + 6]? = some (.inl (.int, 6)) := by rcases h with rfl | rfl <;> rfl
theorem layT_7 {t : Nat} (h : isT t) : LAY[t + 7]? = some (.inl (.int, 5)) := by rcases h with rfl | rfl <;> rfl
theorem layT_8 {t : Nat} (h : isT t) : LAY[t + 8]? = some (.inl (.int, 4)) := by rcases h with rfl | rfl <;> rfl
theorem layT_9 {t : Nat} (h : isT t) : LAY[t + 9]? = some (.inl (.int, 407)) := by rcases h with rfl | rfl <;> rfl
theorem layN {t : Nat} (h : isN t) : LAY[t]? = some (.inr (3, [none, none, none, none, none, some (t + 1), some (t + 2), some (t + 3), some (t + 4), some (t + 5), some (t + 6)])) := by rcases h with rfl | rfl <;> rfl
theorem layN_1 {t : Nat} (h : isN t) : LAY[t + 1]? = some (.inl (.int, 6)) := by rcases h with rfl | rfl <;> rfl
theorem layN_2 {t : Nat} (h : isN t) : LAY[t + 2]? = some (.inl (.int, 6)) := by rcases h with rfl | rfl <;> rfl
theorem layN_3 {t : Nat} (h : isN t) : LAY[t + 3]? = some (.inl (.int, 6)) := by rcases h with rfl | rfl <;> rfl
theorem layN_4 {t : Nat} (h : isN t) : LAY[t + 4]? = some (.inl (.int, 6)) := by rcases h with rfl | rfl <;> rfl
theorem layN_5 {t : Nat} (h : isN t) : LAY[t + 5]? = some (.inl (.int, 5)) := by rcases h with rfl | rfl <;> rfl
theorem layN_6 {t : Nat} (h : isN t) : LAY[t + 6]? = some (.inl (.int, 5)) := by rcases h with rfl | rfl <;> rfl
theorem layL {t : Nat} (h : isL t) : LAY[t]? = some (.inr (2, [some (t + 1), some (t + 2)])) := by rcases h with rfl | rfl <;> rfl
theorem layL_1 {t : Nat} (h : isL t) : LAY[t + 1]? = some (.inl (.int, 9)) := by rcases h with rfl | rfl <;> rfl
theorem layL_2 {t : Nat} (h : isL t) : LAY[t + 2]? = some (.inl (.int, 24)) := by rcases h with rfl | rfl <;> rfl
def lt {α β : Type} (a : α) (f : α → β) : β := f a
def ag (M : Mem) (id n : Nat) (i : Int32) : Option Int32 := if i < 0 ∨ n ≤ i.toNatClampNeg then none else some (M.1 id i.toNatClampNeg)
def aj (M : Mem) (id n : Nat) (i : Int32) : Option Int64 := if i < 0 ∨ n ≤ i.toNatClampNeg then none else some (M.2.1 id i.toNatClampNeg)
def pg (M : Mem) (id n : Nat) (i x : Int32) : Option Mem := if i < 0 ∨ n ≤ i.toNatClampNeg then none else some (sI M id i.toNatClampNeg x)
def pb (M : Mem) (id n : Nat) (i x : Int32) : Option Mem := if i < 0 ∨ n ≤ i.toNatClampNeg then none else some (sI M id i.toNatClampNeg (vp_nar .byte x))
def pz (M : Mem) (id n : Nat) (i x : Int32) : Option Mem := if i < 0 ∨ n ≤ i.toNatClampNeg then none else some (sI M id i.toNatClampNeg (vp_nar .boolean x))
def pj (M : Mem) (id n : Nat) (i : Int32) (x : Int64) : Option Mem := if i < 0 ∨ n ≤ i.toNatClampNeg then none else some (sJ M id i.toNatClampNeg x)
def dv (x y : Int32) : Option Int32 := if y = 0 then none else some (x / y)
def rm (x y : Int32) : Option Int32 := if y = 0 then none else some (x - x / y * y)
def rT (M : Mem) (id k : Nat) : Option Nat := match M.2.2 id k with
  | some r => if r = 1 ∨ r = 11 then some r else none
  | none => none
def cp (M : Mem) (a na b nb : Nat) (sp dp n : Int32) : Option Mem := if sp < 0 ∨ dp < 0 ∨ n < 0 ∨ na < sp.toNatClampNeg + n.toNatClampNeg ∨ nb < dp.toNatClampNeg + n.toNatClampNeg then none else some (cpM M a b sp.toNatClampNeg dp.toNatClampNeg n.toNatClampNeg)
def zc {α : Type} (x : Int32) (k : Option α) : Option α := if x = 0 ∨ x = 1 then k else none
section BND
variable {β : Type} {r : β} {M : Mem} {id n : Nat} {i x y : Int32}
theorem b_lt {α : Type} {a : α} {f : α → Option β} (h : lt a f = some r) : ∃ v, v = a ∧ f v = some r := ⟨a, rfl, h⟩
theorem b_ag {f : Int32 → Option β} (h : (ag M id n i).bind f = some r) : ∃ v, vp_in i n ∧ v = M.1 id i.toNatClampNeg ∧ f v = some r := by
  unfold ag at h
  split at h
  · cases h
  · next hc => exact ⟨_, hc, rfl, h⟩
theorem b_aj {f : Int64 → Option β} (h : (aj M id n i).bind f = some r) : ∃ v, vp_in i n ∧ v = M.2.1 id i.toNatClampNeg ∧ f v = some r := by
  unfold aj at h
  split at h
  · cases h
  · next hc => exact ⟨_, hc, rfl, h⟩
theorem b_pg {f : Mem → Option β} (h : (pg M id n i x).bind f = some r) : ∃ v, vp_in i n ∧ v = sI M id i.toNatClampNeg x ∧ f v = some r := by
  unfold pg at h
  split at h
  · cases h
  · next hc => exact ⟨_, hc, rfl, h⟩
theorem b_pb {f : Mem → Option β} (h : (pb M id n i x).bind f = some r) : ∃ v, vp_in i n ∧ v = sI M id i.toNatClampNeg (vp_nar .byte x) ∧ f v = some r := by
  unfold pb at h
  split at h
  · cases h
  · next hc => exact ⟨_, hc, rfl, h⟩
theorem b_pz {f : Mem → Option β} (h : (pz M id n i x).bind f = some r) : ∃ v, vp_in i n ∧ v = sI M id i.toNatClampNeg (vp_nar .boolean x) ∧ f v = some r := by
  unfold pz at h
  split at h
  · cases h
  · next hc => exact ⟨_, hc, rfl, h⟩
theorem b_pj {q : Int64} {f : Mem → Option β} (h : (pj M id n i q).bind f = some r) : ∃ v, vp_in i n ∧ v = sJ M id i.toNatClampNeg q ∧ f v = some r := by
  unfold pj at h
  split at h
  · cases h
  · next hc => exact ⟨_, hc, rfl, h⟩
theorem b_dv {f : Int32 → Option β} (h : (dv x y).bind f = some r) : ∃ v, ¬ y = 0 ∧ v = x / y ∧ f v = some r := by
  unfold dv at h
  split at h
  · cases h
  · next hc => exact ⟨_, hc, rfl, h⟩
theorem b_rm {f : Int32 → Option β} (h : (rm x y).bind f = some r) : ∃ v, ¬ y = 0 ∧ v = x - x / y * y ∧ f v = some r := by
  unfold rm at h
  split at h
  · cases h
  · next hc => exact ⟨_, hc, rfl, h⟩
theorem b_rT {k : Nat} {f : Nat → Option β} (h : (rT M id k).bind f = some r) : ∃ v, isT v ∧ M.2.2 id k = some v ∧ f v = some r := by
  unfold rT at h
  split at h
  · next q hq =>
    split at h
    · next hc => exact ⟨q, hc, hq, h⟩
    · cases h
  · cases h
theorem b_cp {a na b nb : Nat} {sp dp m : Int32} {f : Mem → Option β} (h : (cp M a na b nb sp dp m).bind f = some r) : ∃ v, (¬ sp < 0 ∧ ¬ dp < 0 ∧ ¬ m < 0 ∧ sp.toNatClampNeg + m.toNatClampNeg ≤ na ∧ dp.toNatClampNeg + m.toNatClampNeg ≤ nb) ∧ v = cpM M a b sp.toNatClampNeg dp.toNatClampNeg m.toNatClampNeg ∧ f v = some r := by
  unfold cp at h
  split at h
  · cases h
  · next hc =>
    refine ⟨_, ⟨fun z => hc (Or.inl z), fun z => hc (Or.inr (Or.inl z)), fun z => hc (Or.inr (Or.inr (Or.inl z))), ?_, ?_⟩, rfl, h⟩
    · exact Nat.not_lt.mp fun z => hc (Or.inr (Or.inr (Or.inr (Or.inl z))))
    · exact Nat.not_lt.mp fun z => hc (Or.inr (Or.inr (Or.inr (Or.inr z))))
theorem b_zc {k : Option β} (h : zc x k = some r) : (x = 0 ∨ x = 1) ∧ k = some r := by
  unfold zc at h
  split at h
  · next hc => exact ⟨hc, h⟩
  · cases h
theorem b_bd {α : Type} {o : Option α} {f : α → Option β} (h : o.bind f = some r) : ∃ v, o = some v ∧ f v = some r := Option.bind_eq_some_iff.mp h
end BND
section MAINR
variable {g : GG} {i : MI} {d : Nat} {res : Option RS} {P : PT} {pc : Nat} {ls : List (Option Value)} {st : List Value} {L : List Lay} {M : Mem}
abbrev IsM (g : GG) (i : MI) (d : Nat) (res : Option RS) (P : PT) : Prop := IsW g i d LAY.length (szL LAY) res P
theorem y_ald (hP : IsW g i d L.length (szL L) res P) {id n : Nat} {x v : Int32} (hL : L[id]? = some (.inl (.int, n))) (hin : vp_in x n) (hv : v = M.1 id x.toNatClampNeg) (hd : decode i.2.1 pc = .ok (.iaload, 1)) (k : P (pc + 1) ls (.int v :: st) L M) : P pc ls (.int x :: .ref id :: st) L M := x_iald hP hL hin hd (hv ▸ k)
theorem y_bld (hP : IsW g i d L.length (szL L) res P) {id n : Nat} {x v : Int32} (hL : L[id]? = some (.inl (.byte, n))) (hin : vp_in x n) (hv : v = M.1 id x.toNatClampNeg) (hd : decode i.2.1 pc = .ok (.baload, 1)) (k : P (pc + 1) ls (.int v :: st) L M) : P pc ls (.int x :: .ref id :: st) L M := x_bald hP hL hin hd (hv ▸ k)
theorem y_zld (hP : IsW g i d L.length (szL L) res P) {id n : Nat} {x v : Int32} (hL : L[id]? = some (.inl (.boolean, n))) (hin : vp_in x n) (hv : v = M.1 id x.toNatClampNeg) (hd : decode i.2.1 pc = .ok (.baload, 1)) (k : P (pc + 1) ls (.int v :: st) L M) : P pc ls (.int x :: .ref id :: st) L M := x_zald hP hL hin hd (hv ▸ k)
theorem y_lld (hP : IsW g i d L.length (szL L) res P) {id n : Nat} {x : Int32} {v : Int64} (hL : L[id]? = some (.inl (.long, n))) (hin : vp_in x n) (hv : v = M.2.1 id x.toNatClampNeg) (hd : decode i.2.1 pc = .ok (.laload, 1)) (k : P (pc + 1) ls (.long v :: st) L M) : P pc ls (.int x :: .ref id :: st) L M := x_lald hP hL hin hd (hv ▸ k)
theorem y_ast (hP : IsW g i d L.length (szL L) res P) {id n : Nat} {x y : Int32} {M2 : Mem} (hL : L[id]? = some (.inl (.int, n))) (hin : vp_in x n) (hv : M2 = sI M id x.toNatClampNeg y) (hd : decode i.2.1 pc = .ok (.iastore, 1)) (k : P (pc + 1) ls st L M2) : P pc ls (.int y :: .int x :: .ref id :: st) L M := x_iast hP hL hin hd (hv ▸ k)
theorem y_bst (hP : IsW g i d L.length (szL L) res P) {id n : Nat} {x y : Int32} {M2 : Mem} (hL : L[id]? = some (.inl (.byte, n))) (hin : vp_in x n) (hv : M2 = sI M id x.toNatClampNeg (vp_nar .byte y)) (hd : decode i.2.1 pc = .ok (.bastore, 1)) (k : P (pc + 1) ls st L M2) : P pc ls (.int y :: .int x :: .ref id :: st) L M := x_bast hP hL hin hd (hv ▸ k)
theorem y_zst (hP : IsW g i d L.length (szL L) res P) {id n : Nat} {x y : Int32} {M2 : Mem} (hL : L[id]? = some (.inl (.boolean, n))) (hin : vp_in x n) (hv : M2 = sI M id x.toNatClampNeg (vp_nar .boolean y)) (hd : decode i.2.1 pc = .ok (.bastore, 1)) (k : P (pc + 1) ls st L M2) : P pc ls (.int y :: .int x :: .ref id :: st) L M := x_zast hP hL hin hd (hv ▸ k)
theorem y_lst (hP : IsW g i d L.length (szL L) res P) {id n : Nat} {x : Int32} {y : Int64} {M2 : Mem} (hL : L[id]? = some (.inl (.long, n))) (hin : vp_in x n) (hv : M2 = sJ M id x.toNatClampNeg y) (hd : decode i.2.1 pc = .ok (.lastore, 1)) (k : P (pc + 1) ls st L M2) : P pc ls (.long y :: .int x :: .ref id :: st) L M := x_last hP hL hin hd (hv ▸ k)
theorem y_alen (hP : IsW g i d L.length (szL L) res P) {id n : Nat} {v : Int32} (hL : L[id]? = some (.inl (.int, n))) (hv : Int32.ofNat n = v) (hd : decode i.2.1 pc = .ok (.arraylength, 1)) (k : P (pc + 1) ls (.int v :: st) L M) : P pc ls (.ref id :: st) L M := x_alen hP hL ⟨0, rfl⟩ hd (hv ▸ k)
theorem y_putI (hP : IsW g i d L.length (szL L) res P) {idx ci k id : Nat} {rf : List (Option Nat)} {x : Int32} {M2 : Mem} (hf : fOK i.1.cls idx ci k .int false) (hL : L[id]? = some (.inr (ci, rf))) (hv : M2 = sI M id k x) (hd : decode i.2.1 pc = .ok (.putfield idx, 3)) (kk : P (pc + 3) ls st L M2) : P pc ls (.int x :: .ref id :: st) L M := x_putI hP hf hL hd (hv ▸ kk)
theorem y_putZ (hP : IsW g i d L.length (szL L) res P) {idx ci k id : Nat} {rf : List (Option Nat)} {x : Int32} {M2 : Mem} (hf : fOK i.1.cls idx ci k .boolean false) (hx : x = 0 ∨ x = 1) (hL : L[id]? = some (.inr (ci, rf))) (hv : M2 = sI M id k x) (hd : decode i.2.1 pc = .ok (.putfield idx, 3)) (kk : P (pc + 3) ls st L M2) : P pc ls (.int x :: .ref id :: st) L M := x_putZ hP hf hx hL hd (hv ▸ kk)
theorem y_putM (hP : IsW g i d L.length (szL L) res P) {idx ci k id r : Nat} {C : String} {rf : List (Option Nat)} {M2 : Mem} (hf : fOK i.1.cls idx ci k (.object C) false) (hL : L[id]? = some (.inr (ci, rf))) (hv : M2 = sR M id k (some r)) (hd : decode i.2.1 pc = .ok (.putfield idx, 3)) (kk : P (pc + 3) ls st L M2) : P pc ls (.ref r :: .ref id :: st) L M := x_putM hP hf hL hd (hv ▸ kk)
theorem y_div (hP : IsW g i d L.length (szL L) res P) {x y v : Int32} (hne : ¬ y = 0) (hv : v = x / y) (hd : decode i.2.1 pc = .ok (.idiv, 1)) (k : P (pc + 1) ls (.int v :: st) L M) : P pc ls (.int y :: .int x :: st) L M := x_idiv hP hd hne (hv ▸ k)
theorem y_rem (hP : IsW g i d L.length (szL L) res P) {x y v : Int32} (hne : ¬ y = 0) (hv : v = x - x / y * y) (hd : decode i.2.1 pc = .ok (.irem, 1)) (k : P (pc + 1) ls (.int v :: st) L M) : P pc ls (.int y :: .int x :: st) L M := x_irem hP hd hne (hv ▸ k)
theorem y_nmI {x v : Int32} (hv : v = x) (k : P pc ls (.int v :: st) L M) : P pc ls (.int x :: st) L M := hv ▸ k
theorem y_nmJ {x v : Int64} (hv : v = x) (k : P pc ls (.long v :: st) L M) : P pc ls (.long x :: st) L M := hv ▸ k
theorem y_cpy (hP : IsW g i d L.length (szL L) res P) {idx a b m0 m1 : Nat} {sp dp n : Int32} {M2 : Mem} (hlk : Cond.methodLink i.1.cls idx arraycopyName ∈ lw_tbl) (ha : L[a]? = some (.inl (.int, m0))) (hb2 : L[b]? = some (.inl (.int, m1))) (hc : ¬ sp < 0 ∧ ¬ dp < 0 ∧ ¬ n < 0 ∧ sp.toNatClampNeg + n.toNatClampNeg ≤ m0 ∧ dp.toNatClampNeg + n.toNatClampNeg ≤ m1) (hv : M2 = cpM M a b sp.toNatClampNeg dp.toNatClampNeg n.toNatClampNeg) (hcat : Nat.ble (st.map fun v => v.category).sum 8 = true) (hdd : 1 ≤ d) (hd : decode i.2.1 pc = .ok (.invokestatic idx, 3)) (k : P (pc + 3) ls st L M2) : P pc ls (.int n :: .int dp :: .ref b :: .int sp :: .ref a :: st) L M := x_copy hP hlk ha hb2 hc.1 hc.2.1 hc.2.2.1 hc.2.2.2.1 hc.2.2.2.2 (Nat.le_of_ble_eq_true hcat) hdd hd (hv ▸ k)
theorem y_max (hP : IsW g i d L.length (szL L) res P) {idx : Nat} {x y : Int32} (hlk : Cond.methodLink i.1.cls idx yJ9_max_7cf53 ∈ lw_tbl) (hcat : Nat.ble (st.map fun v => v.category).sum 8 = true) (hdd : 1 ≤ d) (hd : decode i.2.1 pc = .ok (.invokestatic idx, 3)) (k : P (pc + 3) ls (.int (if x < y then y else x) :: st) L M) : P pc ls (.int y :: .int x :: st) L M := x_max hP hlk (Nat.le_of_ble_eq_true hcat) hdd ⟨Nat.le_refl _, Nat.le_refl _⟩ hd k
theorem y_min (hP : IsW g i d L.length (szL L) res P) {idx : Nat} {x y : Int32} (hlk : Cond.methodLink i.1.cls idx yJ9_min_7cf53 ∈ lw_tbl) (hcat : Nat.ble (st.map fun v => v.category).sum 8 = true) (hdd : 1 ≤ d) (hd : decode i.2.1 pc = .ok (.invokestatic idx, 3)) (k : P (pc + 3) ls (.int (if y < x then y else x) :: st) L M) : P pc ls (.int y :: .int x :: st) L M := x_min hP hlk (Nat.le_of_ble_eq_true hcat) hdd ⟨Nat.le_refl _, Nat.le_refl _⟩ hd k
theorem y_abs (hP : IsW g i d L.length (szL L) res P) {idx : Nat} {x : Int32} (hlk : Cond.methodLink i.1.cls idx yJ9_abs_0f7a4 ∈ lw_tbl) (hcat : Nat.ble (st.map fun v => v.category).sum 8 = true) (hdd : 1 ≤ d) (hd : decode i.2.1 pc = .ok (.invokestatic idx, 3)) (k : P (pc + 3) ls (.int (if 0 ≤ x then x else 0 - x) :: st) L M) : P pc ls (.int x :: st) L M := x_abs hP hlk (Nat.le_of_ble_eq_true hcat) hdd ⟨Nat.le_refl _, Nat.le_refl _⟩ hd k
/-- a virtual method as the tables have it, of class ci -/
def vOK (j : MI) (ci : Nat) : Prop := mIK j ∧ Cond.instanceMethod j.1 ∈ lw_tbl ∧ Cond.selects j.1.cls j.1 j.1 ∈ lw_tbl ∧ (vwCl[ci]?).map (fun q => q.1) = some j.1.cls
def sOK (j : MI) : Prop := mIK j ∧ Cond.static j.1 ∈ lw_tbl
theorem y_cvi (hP : IsW g i d L.length (szL L) res P) {j : MI} {idx b ci d2 : Nat} {rf : List (Option Nat)} {stk : List Value} {v : Int32} {M1 : Mem} (ho : vOK j ci) (hlk : Cond.methodLink i.1.cls idx j.1 ∈ lw_tbl) (as : List Value) (st : List Value) (hna : as.length = j.2.2.2.2) (hst : stk = as.reverse ++ .ref b :: st) (hcat : Nat.ble (st.map fun v => v.category).sum 8 = true) (hLb : L[b]? = some (.inr (ci, rf))) (hd : decode i.2.1 pc = .ok (.invokevirtual idx, 3)) (hE : ExM g d2 j (.ref b :: as) L M (some (.int v), L, M1)) (hdd : d2 + 1 ≤ d) (k : P (pc + 3) ls (.int v :: st) L M1) : P pc ls stk L M := x_callV hP ho.1 ho.2.1 ho.2.2.1 hlk as hna hst (Nat.le_of_ble_eq_true hcat) hLb ho.2.2.2 hd hE hdd ⟨Nat.le_refl _, Nat.le_refl _⟩ k
theorem y_cvr (hP : IsW g i d L.length (szL L) res P) {j : MI} {idx b ci d2 v : Nat} {rf : List (Option Nat)} {stk : List Value} {M1 : Mem} (ho : vOK j ci) (hlk : Cond.methodLink i.1.cls idx j.1 ∈ lw_tbl) (as : List Value) (st : List Value) (hna : as.length = j.2.2.2.2) (hst : stk = as.reverse ++ .ref b :: st) (hcat : Nat.ble (st.map fun v => v.category).sum 8 = true) (hLb : L[b]? = some (.inr (ci, rf))) (hd : decode i.2.1 pc = .ok (.invokevirtual idx, 3)) (hE : ExM g d2 j (.ref b :: as) L M (some (.ref v), L, M1)) (hdd : d2 + 1 ≤ d) (k : P (pc + 3) ls (.ref v :: st) L M1) : P pc ls stk L M := x_callV hP ho.1 ho.2.1 ho.2.2.1 hlk as hna hst (Nat.le_of_ble_eq_true hcat) hLb ho.2.2.2 hd hE hdd ⟨Nat.le_refl _, Nat.le_refl _⟩ k
theorem y_cvv (hP : IsW g i d L.length (szL L) res P) {j : MI} {idx b ci d2 : Nat} {rf : List (Option Nat)} {stk : List Value} {M1 : Mem} (ho : vOK j ci) (hlk : Cond.methodLink i.1.cls idx j.1 ∈ lw_tbl) (as : List Value) (st : List Value) (hna : as.length = j.2.2.2.2) (hst : stk = as.reverse ++ .ref b :: st) (hcat : Nat.ble (st.map fun v => v.category).sum 8 = true) (hLb : L[b]? = some (.inr (ci, rf))) (hd : decode i.2.1 pc = .ok (.invokevirtual idx, 3)) (hE : ExM g d2 j (.ref b :: as) L M (none, L, M1)) (hdd : d2 + 1 ≤ d) (k : P (pc + 3) ls st L M1) : P pc ls stk L M := x_callV hP ho.1 ho.2.1 ho.2.2.1 hlk as hna hst (Nat.le_of_ble_eq_true hcat) hLb ho.2.2.2 hd hE hdd ⟨Nat.le_refl _, Nat.le_refl _⟩ k
theorem y_csi (hP : IsW g i d L.length (szL L) res P) {j : MI} {idx d2 : Nat} {stk : List Value} {v : Int32} {M1 : Mem} (ho : sOK j) (hlk : Cond.methodLink i.1.cls idx j.1 ∈ lw_tbl) (as : List Value) (st : List Value) (hna : as.length = j.2.2.2.2) (hst : stk = as.reverse ++ st) (hcat : Nat.ble (st.map fun v => v.category).sum 8 = true) (hd : decode i.2.1 pc = .ok (.invokestatic idx, 3)) (hE : ExM g d2 j as L M (some (.int v), L, M1)) (hdd : d2 + 1 ≤ d) (k : P (pc + 3) ls (.int v :: st) L M1) : P pc ls stk L M := x_callS hP ho.1 ho.2 hlk as hna hst (Nat.le_of_ble_eq_true hcat) hd hE hdd ⟨Nat.le_refl _, Nat.le_refl _⟩ k
theorem y_csl (hP : IsW g i d L.length (szL L) res P) {j : MI} {idx d2 : Nat} {stk : List Value} {v : Int64} {M1 : Mem} (ho : sOK j) (hlk : Cond.methodLink i.1.cls idx j.1 ∈ lw_tbl) (as : List Value) (st : List Value) (hna : as.length = j.2.2.2.2) (hst : stk = as.reverse ++ st) (hcat : Nat.ble (st.map fun v => v.category).sum 8 = true) (hd : decode i.2.1 pc = .ok (.invokestatic idx, 3)) (hE : ExM g d2 j as L M (some (.long v), L, M1)) (hdd : d2 + 1 ≤ d) (k : P (pc + 3) ls (.long v :: st) L M1) : P pc ls stk L M := x_callS hP ho.1 ho.2 hlk as hna hst (Nat.le_of_ble_eq_true hcat) hd hE hdd ⟨Nat.le_refl _, Nat.le_refl _⟩ k
theorem y_csv (hP : IsW g i d L.length (szL L) res P) {j : MI} {idx d2 : Nat} {stk : List Value} {M1 : Mem} (ho : sOK j) (hlk : Cond.methodLink i.1.cls idx j.1 ∈ lw_tbl) (as : List Value) (st : List Value) (hna : as.length = j.2.2.2.2) (hst : stk = as.reverse ++ st) (hcat : Nat.ble (st.map fun v => v.category).sum 8 = true) (hd : decode i.2.1 pc = .ok (.invokestatic idx, 3)) (hE : ExM g d2 j as L M (none, L, M1)) (hdd : d2 + 1 ≤ d) (k : P (pc + 3) ls st L M1) : P pc ls stk L M := x_callS hP ho.1 ho.2 hlk as hna hst (Nat.le_of_ble_eq_true hcat) hd hE hdd ⟨Nat.le_refl _, Nat.le_refl _⟩ k
theorem ExM.main {g : GG} {d : Nat} {i : MI} {as : List Value} {L : List Lay} {M M1 : Mem} {r : Option Value} {ls : List (Option Value)} (hp : plainName i.1.cls = true) (hn : Nat.ble (entL as).length i.2.2.1 = true) (he : ent as i.2.2.1 = ls) (body : ∀ P : PT, IsW g i d L.length (szL L) (some (r, L, M1)) P → P 0 ls [] L M) : ExM g d i as L M (r, L, M1) := ExM.of hp (Nat.le_refl _) (Nat.le_refl _) (Nat.le_of_ble_eq_true hn) (fun P hP => he ▸ body P hP)
end MAINR
abbrev iX0_init : MI := (yX0_init, cX0_init, 2, none, 1)
abbrev iX0_isDraughty : MI := (yX0_isDraughty, cX0_isDraughty, 3, (some .boolean), 3)
theorem oX0_isDraughty : sOK iX0_isDraughty := ⟨kX0_isDraughty, sX0_isDraughty⟩
abbrev iX0_passHours : MI := (yX0_passHours, cX0_passHours, 6, none, 4)
theorem oX0_passHours : vOK iX0_passHours 0 := ⟨kX0_passHours, vX0_passHours, eX0_passHours, rfl⟩
abbrev iX0_nightIn : MI := (yX0_nightIn, cX0_nightIn, 4, (some (.object "BlushLamps$Night")), 3)
theorem oX0_nightIn : vOK iX0_nightIn 0 := ⟨kX0_nightIn, vX0_nightIn, eX0_nightIn, rfl⟩
abbrev iX0_hoursTillDark : MI := (yX0_hoursTillDark, cX0_hoursTillDark, 4, (some .int), 2)
theorem oX0_hoursTillDark : vOK iX0_hoursTillDark 0 := ⟨kX0_hoursTillDark, vX0_hoursTillDark, eX0_hoursTillDark, rfl⟩
abbrev iX0_passHour : MI := (yX0_passHour, cX0_passHour, 6, none, 2)
theorem oX0_passHour : vOK iX0_passHour 0 := ⟨kX0_passHour, vX0_passHour, eX0_passHour, rfl⟩
abbrev iX0_chilledCorner : MI := (yX0_chilledCorner, cX0_chilledCorner, 2, (some .int), 2)
theorem oX0_chilledCorner : sOK iX0_chilledCorner := ⟨kX0_chilledCorner, sX0_chilledCorner⟩
abbrev iX0_lot : MI := (yX0_lot, cX0_lot, 4, (some .int), 3)
theorem oX0_lot : sOK iX0_lot := ⟨kX0_lot, sX0_lot⟩
abbrev iX0_stir : MI := (yX0_stir, cX0_stir, 3, (some .int), 2)
theorem oX0_stir : sOK iX0_stir := ⟨kX0_stir, sX0_stir⟩
abbrev iX1_init : MI := (yX1_init, cX1_init, 1, none, 0)
abbrev iX1_note : MI := (yX1_note, cX1_note, 4, none, 3)
theorem oX1_note : vOK iX1_note 1 := ⟨kX1_note, vX1_note, eX1_note, rfl⟩
abbrev iX1_fitting : MI := (yX1_fitting, cX1_fitting, 6, (some .int), 3)
theorem oX1_fitting : vOK iX1_fitting 1 := ⟨kX1_fitting, vX1_fitting, eX1_fitting, rfl⟩
abbrev iX1_mostTelling : MI := (yX1_mostTelling, cX1_mostTelling, 8, (some .int), 4)
theorem oX1_mostTelling : sOK iX1_mostTelling := ⟨kX1_mostTelling, sX1_mostTelling⟩
abbrev iX1_isFitting : MI := (yX1_isFitting, cX1_isFitting, 7, (some .boolean), 4)
theorem oX1_isFitting : vOK iX1_isFitting 1 := ⟨kX1_isFitting, vX1_isFitting, eX1_isFitting, rfl⟩
abbrev iX1_leftAtWorst : MI := (yX1_leftAtWorst, cX1_leftAtWorst, 7, (some .int), 5)
theorem oX1_leftAtWorst : sOK iX1_leftAtWorst := ⟨kX1_leftAtWorst, sX1_leftAtWorst⟩
abbrev iX2_init : MI := (yX2_init, cX2_init, 1, none, 0)
abbrev iX2_glows : MI := (yX2_glows, cX2_glows, 4, (some .int), 3)
theorem oX2_glows : vOK iX2_glows 2 := ⟨kX2_glows, vX2_glows, eX2_glows, rfl⟩
abbrev iX2_wears : MI := (yX2_wears, cX2_wears, 4, (some .int), 3)
theorem oX2_wears : vOK iX2_wears 2 := ⟨kX2_wears, vX2_wears, eX2_wears, rfl⟩
abbrev iX2_cools : MI := (yX2_cools, cX2_cools, 3, (some .int), 2)
theorem oX2_cools : vOK iX2_cools 2 := ⟨kX2_cools, vX2_cools, eX2_cools, rfl⟩
abbrev iX2_leaves : MI := (yX2_leaves, cX2_leaves, 3, (some .boolean), 2)
theorem oX2_leaves : vOK iX2_leaves 2 := ⟨kX2_leaves, vX2_leaves, eX2_leaves, rfl⟩
abbrev iX2_glowIfTold : MI := (yX2_glowIfTold, cX2_glowIfTold, 4, (some .int), 3)
theorem oX2_glowIfTold : vOK iX2_glowIfTold 2 := ⟨kX2_glowIfTold, vX2_glowIfTold, eX2_glowIfTold, rfl⟩
abbrev iX2_hottestFor : MI := (yX2_hottestFor, cX2_hottestFor, 7, (some .int), 2)
theorem oX2_hottestFor : vOK iX2_hottestFor 2 := ⟨kX2_hottestFor, vX2_hottestFor, eX2_hottestFor, rfl⟩
abbrev iX2_mostLasting : MI := (yX2_mostLasting, cX2_mostLasting, 7, (some .int), 2)
theorem oX2_mostLasting : vOK iX2_mostLasting 2 := ⟨kX2_mostLasting, vX2_mostLasting, eX2_mostLasting, rfl⟩
abbrev iX2_apart : MI := (yX2_apart, cX2_apart, 6, (some .int), 3)
theorem oX2_apart : vOK iX2_apart 2 := ⟨kX2_apart, vX2_apart, eX2_apart, rfl⟩
abbrev iX2_mostAlike : MI := (yX2_mostAlike, cX2_mostAlike, 7, (some .int), 1)
theorem oX2_mostAlike : vOK iX2_mostAlike 2 := ⟨kX2_mostAlike, vX2_mostAlike, eX2_mostAlike, rfl⟩
abbrev iX2_held : MI := (yX2_held, cX2_held, 1, (some .int), 1)
theorem oX2_held : sOK iX2_held := ⟨kX2_held, sX2_held⟩
abbrev iX2_lawOf : MI := (yX2_lawOf, cX2_lawOf, 6, (some .int), 4)
theorem oX2_lawOf : vOK iX2_lawOf 2 := ⟨kX2_lawOf, vX2_lawOf, eX2_lawOf, rfl⟩
abbrev iX2_run : MI := (yX2_run, cX2_run, 10, (some .int), 2)
theorem oX2_run : vOK iX2_run 2 := ⟨kX2_run, vX2_run, eX2_run, rfl⟩
abbrev iX3_init : MI := (yX3_init, cX3_init, 2, none, 1)
abbrev iX3_begin : MI := (yX3_begin, cX3_begin, 2, none, 1)
theorem oX3_begin : vOK iX3_begin 3 := ⟨kX3_begin, vX3_begin, eX3_begin, rfl⟩
abbrev iX3_copyFrom : MI := (yX3_copyFrom, cX3_copyFrom, 2, none, 1)
theorem oX3_copyFrom : vOK iX3_copyFrom 3 := ⟨kX3_copyFrom, vX3_copyFrom, eX3_copyFrom, rfl⟩
abbrev iX3_isHome : MI := (yX3_isHome, cX3_isHome, 2, (some .boolean), 1)
theorem oX3_isHome : vOK iX3_isHome 3 := ⟨kX3_isHome, vX3_isHome, eX3_isHome, rfl⟩
abbrev iX3_since : MI := (yX3_since, cX3_since, 2, (some .int), 1)
theorem oX3_since : vOK iX3_since 3 := ⟨kX3_since, vX3_since, eX3_since, rfl⟩
abbrev iX3_lightAt : MI := (yX3_lightAt, cX3_lightAt, 4, (some .int), 1)
theorem oX3_lightAt : vOK iX3_lightAt 3 := ⟨kX3_lightAt, vX3_lightAt, eX3_lightAt, rfl⟩
abbrev iX3_whoIsAt : MI := (yX3_whoIsAt, cX3_whoIsAt, 4, (some .int), 1)
theorem oX3_whoIsAt : vOK iX3_whoIsAt 3 := ⟨kX3_whoIsAt, vX3_whoIsAt, eX3_whoIsAt, rfl⟩
abbrev iX3_cornersInUse : MI := (yX3_cornersInUse, cX3_cornersInUse, 3, (some .int), 0)
theorem oX3_cornersInUse : vOK iX3_cornersInUse 3 := ⟨kX3_cornersInUse, vX3_cornersInUse, eX3_cornersInUse, rfl⟩
abbrev iX3_firstOut : MI := (yX3_firstOut, cX3_firstOut, 2, (some .int), 0)
theorem oX3_firstOut : vOK iX3_firstOut 3 := ⟨kX3_firstOut, vX3_firstOut, eX3_firstOut, rfl⟩
abbrev iX3_lightestCorner : MI := (yX3_lightestCorner, cX3_lightestCorner, 3, (some .int), 0)
theorem oX3_lightestCorner : vOK iX3_lightestCorner 3 := ⟨kX3_lightestCorner, vX3_lightestCorner, eX3_lightestCorner, rfl⟩
abbrev iX3_needsOf : MI := (yX3_needsOf, cX3_needsOf, 2, (some .int), 1)
theorem oX3_needsOf : vOK iX3_needsOf 3 := ⟨kX3_needsOf, vX3_needsOf, eX3_needsOf, rfl⟩
abbrev iX3_isLit : MI := (yX3_isLit, cX3_isLit, 2, (some .boolean), 1)
theorem oX3_isLit : vOK iX3_isLit 3 := ⟨kX3_isLit, vX3_isLit, eX3_isLit, rfl⟩
abbrev iX3_litStreets : MI := (yX3_litStreets, cX3_litStreets, 3, (some .int), 0)
theorem oX3_litStreets : vOK iX3_litStreets 3 := ⟨kX3_litStreets, vX3_litStreets, eX3_litStreets, rfl⟩
abbrev iX3_needsOfAll : MI := (yX3_needsOfAll, cX3_needsOfAll, 3, (some .int), 0)
theorem oX3_needsOfAll : vOK iX3_needsOfAll 3 := ⟨kX3_needsOfAll, vX3_needsOfAll, eX3_needsOfAll, rfl⟩
abbrev iX4_init : MI := (yX4_init, cX4_init, 1, none, 0)
abbrev iX4_clear : MI := (yX4_clear, cX4_clear, 1, none, 0)
theorem oX4_clear : vOK iX4_clear 4 := ⟨kX4_clear, vX4_clear, eX4_clear, rfl⟩
abbrev iX4_note : MI := (yX4_note, cX4_note, 2, none, 1)
theorem oX4_note : vOK iX4_note 4 := ⟨kX4_note, vX4_note, eX4_note, rfl⟩
abbrev iX4_takeBack : MI := (yX4_takeBack, cX4_takeBack, 2, (some .boolean), 1)
theorem oX4_takeBack : vOK iX4_takeBack 4 := ⟨kX4_takeBack, vX4_takeBack, eX4_takeBack, rfl⟩
abbrev iX4_keepIn : MI := (yX4_keepIn, cX4_keepIn, 3, (some .boolean), 2)
theorem oX4_keepIn : vOK iX4_keepIn 4 := ⟨kX4_keepIn, vX4_keepIn, eX4_keepIn, rfl⟩
abbrev iX4_takeFrom : MI := (yX4_takeFrom, cX4_takeFrom, 3, (some .boolean), 2)
theorem oX4_takeFrom : vOK iX4_takeFrom 4 := ⟨kX4_takeFrom, vX4_takeFrom, eX4_takeFrom, rfl⟩
abbrev iX4_write : MI := (yX4_write, cX4_write, 4, none, 3)
theorem oX4_write : sOK iX4_write := ⟨kX4_write, sX4_write⟩
abbrev iX4_writeBack : MI := (yX4_writeBack, cX4_writeBack, 4, none, 3)
theorem oX4_writeBack : sOK iX4_writeBack := ⟨kX4_writeBack, sX4_writeBack⟩
abbrev iX5_init : MI := (yX5_init, cX5_init, 1, none, 0)
abbrev iX5_search : MI := (yX5_search, cX5_search, 4, none, 1)
theorem oX5_search : vOK iX5_search 5 := ⟨kX5_search, vX5_search, eX5_search, rfl⟩
abbrev iX5_fewestFor : MI := (yX5_fewestFor, cX5_fewestFor, 8, (some .int), 2)
theorem oX5_fewestFor : vOK iX5_fewestFor 5 := ⟨kX5_fewestFor, vX5_fewestFor, eX5_fewestFor, rfl⟩
abbrev iX5_stand : MI := (yX5_stand, cX5_stand, 8, none, 3)
theorem oX5_stand : vOK iX5_stand 5 := ⟨kX5_stand, vX5_stand, eX5_stand, rfl⟩
abbrev iX5_standLast : MI := (yX5_standLast, cX5_standLast, 6, none, 1)
theorem oX5_standLast : vOK iX5_standLast 5 := ⟨kX5_standLast, vX5_standLast, eX5_standLast, rfl⟩
abbrev iX5_lowestFor : MI := (yX5_lowestFor, cX5_lowestFor, 4, (some .int), 2)
theorem oX5_lowestFor : vOK iX5_lowestFor 5 := ⟨kX5_lowestFor, vX5_lowestFor, eX5_lowestFor, rfl⟩
abbrev iX5_litWith : MI := (yX5_litWith, cX5_litWith, 5, (some .int), 2)
theorem oX5_litWith : vOK iX5_litWith 5 := ⟨kX5_litWith, vX5_litWith, eX5_litWith, rfl⟩
abbrev iX5_glowOf : MI := (yX5_glowOf, cX5_glowOf, 4, (some .int), 2)
theorem oX5_glowOf : sOK iX5_glowOf := ⟨kX5_glowOf, sX5_glowOf⟩
abbrev iX6_init : MI := (yX6_init, cX6_init, 2, none, 1)
abbrev iX6_readInto : MI := (yX6_readInto, cX6_readInto, 5, (some .int), 2)
theorem oX6_readInto : vOK iX6_readInto 6 := ⟨kX6_readInto, vX6_readInto, eX6_readInto, rfl⟩
abbrev iX6_start : MI := (yX6_start, cX6_start, 3, none, 2)
theorem oX6_start : vOK iX6_start 6 := ⟨kX6_start, vX6_start, eX6_start, rfl⟩
abbrev iX6_readCorner : MI := (yX6_readCorner, cX6_readCorner, 1, none, 0)
theorem oX6_readCorner : vOK iX6_readCorner 6 := ⟨kX6_readCorner, vX6_readCorner, eX6_readCorner, rfl⟩
abbrev iX6_readStreet : MI := (yX6_readStreet, cX6_readStreet, 5, none, 0)
theorem oX6_readStreet : vOK iX6_readStreet 6 := ⟨kX6_readStreet, vX6_readStreet, eX6_readStreet, rfl⟩
abbrev iX6_readYoung : MI := (yX6_readYoung, cX6_readYoung, 4, none, 0)
theorem oX6_readYoung : vOK iX6_readYoung 6 := ⟨kX6_readYoung, vX6_readYoung, eX6_readYoung, rfl⟩
abbrev iX6_readWord : MI := (yX6_readWord, cX6_readWord, 2, none, 0)
theorem oX6_readWord : vOK iX6_readWord 6 := ⟨kX6_readWord, vX6_readWord, eX6_readWord, rfl⟩
abbrev iX6_readLaw : MI := (yX6_readLaw, cX6_readLaw, 4, none, 1)
theorem oX6_readLaw : vOK iX6_readLaw 6 := ⟨kX6_readLaw, vX6_readLaw, eX6_readLaw, rfl⟩
abbrev iX6_readValue : MI := (yX6_readValue, cX6_readValue, 5, none, 2)
theorem oX6_readValue : vOK iX6_readValue 6 := ⟨kX6_readValue, vX6_readValue, eX6_readValue, rfl⟩
abbrev iX6_readUnit : MI := (yX6_readUnit, cX6_readUnit, 3, none, 1)
theorem oX6_readUnit : vOK iX6_readUnit 6 := ⟨kX6_readUnit, vX6_readUnit, eX6_readUnit, rfl⟩
abbrev iX6_levelOf : MI := (yX6_levelOf, cX6_levelOf, 1, (some .int), 1)
theorem oX6_levelOf : sOK iX6_levelOf := ⟨kX6_levelOf, sX6_levelOf⟩
abbrev iX6_kind : MI := (yX6_kind, cX6_kind, 1, (some .int), 0)
theorem oX6_kind : vOK iX6_kind 6 := ⟨kX6_kind, vX6_kind, eX6_kind, rfl⟩
abbrev iX6_passOneOf : MI := (yX6_passOneOf, cX6_passOneOf, 3, none, 2)
theorem oX6_passOneOf : vOK iX6_passOneOf 6 := ⟨kX6_passOneOf, vX6_passOneOf, eX6_passOneOf, rfl⟩
abbrev iX6_takeNewName : MI := (yX6_takeNewName, cX6_takeNewName, 5, none, 1)
theorem oX6_takeNewName : vOK iX6_takeNewName 6 := ⟨kX6_takeNewName, vX6_takeNewName, eX6_takeNewName, rfl⟩
abbrev iX6_takeCorner : MI := (yX6_takeCorner, cX6_takeCorner, 4, (some .int), 0)
theorem oX6_takeCorner : vOK iX6_takeCorner 6 := ⟨kX6_takeCorner, vX6_takeCorner, eX6_takeCorner, rfl⟩
abbrev iX6_takeInt : MI := (yX6_takeInt, cX6_takeInt, 5, (some .int), 2)
theorem oX6_takeInt : vOK iX6_takeInt 6 := ⟨kX6_takeInt, vX6_takeInt, eX6_takeInt, rfl⟩
abbrev iX6_find : MI := (yX6_find, cX6_find, 4, (some .int), 1)
theorem oX6_find : vOK iX6_find 6 := ⟨kX6_find, vX6_find, eX6_find, rfl⟩
abbrev iX6_expect : MI := (yX6_expect, cX6_expect, 2, none, 1)
theorem oX6_expect : vOK iX6_expect 6 := ⟨kX6_expect, vX6_expect, eX6_expect, rfl⟩
abbrev iX6_pass : MI := (yX6_pass, cX6_pass, 1, none, 0)
theorem oX6_pass : vOK iX6_pass 6 := ⟨kX6_pass, vX6_pass, eX6_pass, rfl⟩
abbrev iX6_fail : MI := (yX6_fail, cX6_fail, 2, none, 1)
theorem oX6_fail : vOK iX6_fail 6 := ⟨kX6_fail, vX6_fail, eX6_fail, rfl⟩
abbrev iX6_failLater : MI := (yX6_failLater, cX6_failLater, 3, none, 2)
theorem oX6_failLater : vOK iX6_failLater 6 := ⟨kX6_failLater, vX6_failLater, eX6_failLater, rfl⟩
abbrev iX7_init : MI := (yX7_init, cX7_init, 1, none, 0)
abbrev iX7_append : MI := (yX7_append, cX7_append, 3, none, 1)
theorem oX7_append : vOK iX7_append 7 := ⟨kX7_append, vX7_append, eX7_append, rfl⟩
abbrev iX7_byteAt : MI := (yX7_byteAt, cX7_byteAt, 2, (some .int), 1)
theorem oX7_byteAt : vOK iX7_byteAt 7 := ⟨kX7_byteAt, vX7_byteAt, eX7_byteAt, rfl⟩
abbrev iX8_init : MI := (yX8_init, cX8_init, 5, none, 0)
abbrev iX8_cutUp : MI := (yX8_cutUp, cX8_cutUp, 4, none, 1)
theorem oX8_cutUp : vOK iX8_cutUp 8 := ⟨kX8_cutUp, vX8_cutUp, eX8_cutUp, rfl⟩
abbrev iX8_cutOne : MI := (yX8_cutOne, cX8_cutOne, 5, (some .int), 3)
theorem oX8_cutOne : vOK iX8_cutOne 8 := ⟨kX8_cutOne, vX8_cutOne, eX8_cutOne, rfl⟩
abbrev iX8_cutLetters : MI := (yX8_cutLetters, cX8_cutLetters, 7, (some .int), 3)
theorem oX8_cutLetters : vOK iX8_cutLetters 8 := ⟨kX8_cutLetters, vX8_cutLetters, eX8_cutLetters, rfl⟩
abbrev iX8_cutDigits : MI := (yX8_cutDigits, cX8_cutDigits, 7, (some .int), 3)
theorem oX8_cutDigits : vOK iX8_cutDigits 8 := ⟨kX8_cutDigits, vX8_cutDigits, eX8_cutDigits, rfl⟩
abbrev iX8_kindOf : MI := (yX8_kindOf, cX8_kindOf, 4, (some .int), 1)
theorem oX8_kindOf : vOK iX8_kindOf 8 := ⟨kX8_kindOf, vX8_kindOf, eX8_kindOf, rfl⟩
abbrev iX8_behindBlanks : MI := (yX8_behindBlanks, cX8_behindBlanks, 3, (some .int), 2)
theorem oX8_behindBlanks : sOK iX8_behindBlanks := ⟨kX8_behindBlanks, sX8_behindBlanks⟩
abbrev iX8_spell : MI := (yX8_spell, cX8_spell, 3, (some .long), 2)
theorem oX8_spell : sOK iX8_spell := ⟨kX8_spell, sX8_spell⟩
abbrev iX8_isLetter : MI := (yX8_isLetter, cX8_isLetter, 1, (some .boolean), 1)
theorem oX8_isLetter : sOK iX8_isLetter := ⟨kX8_isLetter, sX8_isLetter⟩
abbrev iX8_isDigit : MI := (yX8_isDigit, cX8_isDigit, 1, (some .boolean), 1)
theorem oX8_isDigit : sOK iX8_isDigit := ⟨kX8_isDigit, sX8_isDigit⟩
abbrev iX8_isBlank : MI := (yX8_isBlank, cX8_isBlank, 1, (some .boolean), 1)
theorem oX8_isBlank : sOK iX8_isBlank := ⟨kX8_isBlank, sX8_isBlank⟩
abbrev iX9_init : MI := (yX9_init, cX9_init, 1, none, 0)
abbrev iX9_clear : MI := (yX9_clear, cX9_clear, 1, none, 0)
theorem oX9_clear : vOK iX9_clear 9 := ⟨kX9_clear, vX9_clear, eX9_clear, rfl⟩
abbrev iX9_addStreet : MI := (yX9_addStreet, cX9_addStreet, 4, none, 3)
theorem oX9_addStreet : vOK iX9_addStreet 9 := ⟨kX9_addStreet, vX9_addStreet, eX9_addStreet, rfl⟩
abbrev iX9_addYoung : MI := (yX9_addYoung, cX9_addYoung, 4, none, 3)
theorem oX9_addYoung : vOK iX9_addYoung 9 := ⟨kX9_addYoung, vX9_addYoung, eX9_addYoung, rfl⟩
abbrev iX9_addWord : MI := (yX9_addWord, cX9_addWord, 2, none, 1)
theorem oX9_addWord : vOK iX9_addWord 9 := ⟨kX9_addWord, vX9_addWord, eX9_addWord, rfl⟩
abbrev iX9_emit : MI := (yX9_emit, cX9_emit, 3, none, 2)
theorem oX9_emit : vOK iX9_emit 9 := ⟨kX9_emit, vX9_emit, eX9_emit, rfl⟩
abbrev iX9_aimAtEnd : MI := (yX9_aimAtEnd, cX9_aimAtEnd, 2, none, 1)
theorem oX9_aimAtEnd : vOK iX9_aimAtEnd 9 := ⟨kX9_aimAtEnd, vX9_aimAtEnd, eX9_aimAtEnd, rfl⟩
abbrev iX9_streetsOf : MI := (yX9_streetsOf, cX9_streetsOf, 4, (some .int), 1)
theorem oX9_streetsOf : vOK iX9_streetsOf 9 := ⟨kX9_streetsOf, vX9_streetsOf, eX9_streetsOf, rfl⟩
abbrev iX9_acrossFrom : MI := (yX9_acrossFrom, cX9_acrossFrom, 3, (some .int), 2)
theorem oX9_acrossFrom : vOK iX9_acrossFrom 9 := ⟨kX9_acrossFrom, vX9_acrossFrom, eX9_acrossFrom, rfl⟩
abbrev iX10_init : MI := (yX10_init, cX10_init, 1, none, 0)
abbrev iX10_fewest : MI := (yX10_fewest, cX10_fewest, 5, (some .int), 4)
theorem oX10_fewest : vOK iX10_fewest 10 := ⟨kX10_fewest, vX10_fewest, eX10_fewest, rfl⟩
abbrev iX10_reached : MI := (yX10_reached, cX10_reached, 6, (some .int), 3)
theorem oX10_reached : vOK iX10_reached 10 := ⟨kX10_reached, vX10_reached, eX10_reached, rfl⟩
abbrev iX10_onlyWays : MI := (yX10_onlyWays, cX10_onlyWays, 6, (some .int), 2)
theorem oX10_onlyWays : vOK iX10_onlyWays 10 := ⟨kX10_onlyWays, vX10_onlyWays, eX10_onlyWays, rfl⟩
abbrev iX10_shortestRound : MI := (yX10_shortestRound, cX10_shortestRound, 5, (some .int), 3)
theorem oX10_shortestRound : vOK iX10_shortestRound 10 := ⟨kX10_shortestRound, vX10_shortestRound, eX10_shortestRound, rfl⟩
abbrev iX10_nearestToAll : MI := (yX10_nearestToAll, cX10_nearestToAll, 6, (some .int), 1)
theorem oX10_nearestToAll : vOK iX10_nearestToAll 10 := ⟨kX10_nearestToAll, vX10_nearestToAll, eX10_nearestToAll, rfl⟩
abbrev iX10_stepsOfAll : MI := (yX10_stepsOfAll, cX10_stepsOfAll, 5, (some .int), 2)
theorem oX10_stepsOfAll : vOK iX10_stepsOfAll 10 := ⟨kX10_stepsOfAll, vX10_stepsOfAll, eX10_stepsOfAll, rfl⟩
abbrev iX10_fewestBetween : MI := (yX10_fewestBetween, cX10_fewestBetween, 7, (some .int), 4)
theorem oX10_fewestBetween : vOK iX10_fewestBetween 10 := ⟨kX10_fewestBetween, vX10_fewestBetween, eX10_fewestBetween, rfl⟩
abbrev iX10_shortestJoin : MI := (yX10_shortestJoin, cX10_shortestJoin, 6, (some .int), 1)
theorem oX10_shortestJoin : vOK iX10_shortestJoin 10 := ⟨kX10_shortestJoin, vX10_shortestJoin, eX10_shortestJoin, rfl⟩
abbrev iX10_measure : MI := (yX10_measure, cX10_measure, 9, none, 3)
theorem oX10_measure : vOK iX10_measure 10 := ⟨kX10_measure, vX10_measure, eX10_measure, rfl⟩
abbrev iX10_roundFrom : MI := (yX10_roundFrom, cX10_roundFrom, 8, (some .int), 3)
theorem oX10_roundFrom : vOK iX10_roundFrom 10 := ⟨kX10_roundFrom, vX10_roundFrom, eX10_roundFrom, rfl⟩
abbrev iX10_crossing : MI := (yX10_crossing, cX10_crossing, 5, (some .int), 3)
theorem oX10_crossing : sOK iX10_crossing := ⟨kX10_crossing, sX10_crossing⟩
abbrev iX10_shortestOutOf : MI := (yX10_shortestOutOf, cX10_shortestOutOf, 4, (some .int), 2)
theorem oX10_shortestOutOf : sOK iX10_shortestOutOf := ⟨kX10_shortestOutOf, sX10_shortestOutOf⟩
abbrev iX10_isCrossing : MI := (yX10_isCrossing, cX10_isCrossing, 3, (some .boolean), 3)
theorem oX10_isCrossing : sOK iX10_isCrossing := ⟨kX10_isCrossing, sX10_isCrossing⟩
abbrev iX11_init : MI := (yX11_init, cX11_init, 3, none, 0)
abbrev iX11_feed : MI := (yX11_feed, cX11_feed, 6, (some .int), 5)
theorem oX11_feed : vOK iX11_feed 11 := ⟨kX11_feed, vX11_feed, eX11_feed, rfl⟩
abbrev iX11_back : MI := (yX11_back, cX11_back, 2, (some .int), 1)
theorem oX11_back : vOK iX11_back 11 := ⟨kX11_back, vX11_back, eX11_back, rfl⟩
abbrev iX11_read : MI := (yX11_read, cX11_read, 2, (some .int), 0)
theorem oX11_read : vOK iX11_read 11 := ⟨kX11_read, vX11_read, eX11_read, rfl⟩
abbrev iX11_place : MI := (yX11_place, cX11_place, 1, (some .int), 0)
theorem oX11_place : vOK iX11_place 11 := ⟨kX11_place, vX11_place, eX11_place, rfl⟩
abbrev iX11_corner : MI := (yX11_corner, cX11_corner, 3, (some .int), 2)
theorem oX11_corner : vOK iX11_corner 11 := ⟨kX11_corner, vX11_corner, eX11_corner, rfl⟩
abbrev iX11_street : MI := (yX11_street, cX11_street, 3, (some .int), 2)
theorem oX11_street : vOK iX11_street 11 := ⟨kX11_street, vX11_street, eX11_street, rfl⟩
abbrev iX11_young : MI := (yX11_young, cX11_young, 3, (some .int), 2)
theorem oX11_young : vOK iX11_young 11 := ⟨kX11_young, vX11_young, eX11_young, rfl⟩
abbrev iX11_word : MI := (yX11_word, cX11_word, 3, (some .int), 2)
theorem oX11_word : vOK iX11_word 11 := ⟨kX11_word, vX11_word, eX11_word, rfl⟩
abbrev iX11_tells : MI := (yX11_tells, cX11_tells, 4, (some .int), 3)
theorem oX11_tells : vOK iX11_tells 11 := ⟨kX11_tells, vX11_tells, eX11_tells, rfl⟩
abbrev iX11_step : MI := (yX11_step, cX11_step, 3, (some .int), 1)
theorem oX11_step : vOK iX11_step 11 := ⟨kX11_step, vX11_step, eX11_step, rfl⟩
abbrev iX11_say : MI := (yX11_say, cX11_say, 4, (some .int), 2)
theorem oX11_say : vOK iX11_say 11 := ⟨kX11_say, vX11_say, eX11_say, rfl⟩
abbrev iX11_move : MI := (yX11_move, cX11_move, 3, (some .boolean), 2)
theorem oX11_move : vOK iX11_move 11 := ⟨kX11_move, vX11_move, eX11_move, rfl⟩
abbrev iX11_rouge : MI := (yX11_rouge, cX11_rouge, 2, (some .boolean), 1)
theorem oX11_rouge : vOK iX11_rouge 11 := ⟨kX11_rouge, vX11_rouge, eX11_rouge, rfl⟩
abbrev iX11_hours : MI := (yX11_hours, cX11_hours, 2, (some .int), 1)
theorem oX11_hours : vOK iX11_hours 11 := ⟨kX11_hours, vX11_hours, eX11_hours, rfl⟩
abbrev iX11_undo : MI := (yX11_undo, cX11_undo, 1, (some .boolean), 0)
theorem oX11_undo : vOK iX11_undo 11 := ⟨kX11_undo, vX11_undo, eX11_undo, rfl⟩
abbrev iX11_darkens : MI := (yX11_darkens, cX11_darkens, 2, (some .int), 1)
theorem oX11_darkens : vOK iX11_darkens 11 := ⟨kX11_darkens, vX11_darkens, eX11_darkens, rfl⟩
abbrev iX11_best : MI := (yX11_best, cX11_best, 2, (some .int), 1)
theorem oX11_best : vOK iX11_best 11 := ⟨kX11_best, vX11_best, eX11_best, rfl⟩
abbrev iX11_telling : MI := (yX11_telling, cX11_telling, 4, (some .int), 2)
theorem oX11_telling : vOK iX11_telling 11 := ⟨kX11_telling, vX11_telling, eX11_telling, rfl⟩
abbrev iX11_keep : MI := (yX11_keep, cX11_keep, 2, (some .int), 0)
theorem oX11_keep : vOK iX11_keep 11 := ⟨kX11_keep, vX11_keep, eX11_keep, rfl⟩
abbrev iX11_steps : MI := (yX11_steps, cX11_steps, 3, (some .int), 2)
theorem oX11_steps : vOK iX11_steps 11 := ⟨kX11_steps, vX11_steps, eX11_steps, rfl⟩
abbrev iX11_round : MI := (yX11_round, cX11_round, 1, (some .int), 0)
theorem oX11_round : vOK iX11_round 11 := ⟨kX11_round, vX11_round, eX11_round, rfl⟩
abbrev iX11_safe : MI := (yX11_safe, cX11_safe, 2, (some .int), 1)
theorem oX11_safe : vOK iX11_safe 11 := ⟨kX11_safe, vX11_safe, eX11_safe, rfl⟩
abbrev iX11_dark : MI := (yX11_dark, cX11_dark, 3, (some .int), 2)
theorem oX11_dark : vOK iX11_dark 11 := ⟨kX11_dark, vX11_dark, eX11_dark, rfl⟩
abbrev iX11_bridges : MI := (yX11_bridges, cX11_bridges, 1, (some .int), 0)
theorem oX11_bridges : vOK iX11_bridges 11 := ⟨kX11_bridges, vX11_bridges, eX11_bridges, rfl⟩
abbrev iX11_gather : MI := (yX11_gather, cX11_gather, 3, (some .int), 1)
theorem oX11_gather : vOK iX11_gather 11 := ⟨kX11_gather, vX11_gather, eX11_gather, rfl⟩
abbrev iX11_moves : MI := (yX11_moves, cX11_moves, 4, (some .int), 2)
theorem oX11_moves : vOK iX11_moves 11 := ⟨kX11_moves, vX11_moves, eX11_moves, rfl⟩
abbrev iX11_cut : MI := (yX11_cut, cX11_cut, 3, (some .int), 2)
theorem oX11_cut : vOK iX11_cut 11 := ⟨kX11_cut, vX11_cut, eX11_cut, rfl⟩
abbrev iX11_tree : MI := (yX11_tree, cX11_tree, 1, (some .int), 0)
theorem oX11_tree : vOK iX11_tree 11 := ⟨kX11_tree, vX11_tree, eX11_tree, rfl⟩
abbrev iX11_twins : MI := (yX11_twins, cX11_twins, 3, (some .int), 1)
theorem oX11_twins : vOK iX11_twins 11 := ⟨kX11_twins, vX11_twins, eX11_twins, rfl⟩
abbrev iX11_brightest : MI := (yX11_brightest, cX11_brightest, 3, (some .int), 1)
theorem oX11_brightest : vOK iX11_brightest 11 := ⟨kX11_brightest, vX11_brightest, eX11_brightest, rfl⟩
abbrev iX11_glowIn : MI := (yX11_glowIn, cX11_glowIn, 3, (some .int), 2)
theorem oX11_glowIn : vOK iX11_glowIn 11 := ⟨kX11_glowIn, vX11_glowIn, eX11_glowIn, rfl⟩
abbrev iX11_then : MI := (yX11_then, cX11_then, 4, (some .int), 2)
theorem oX11_then : vOK iX11_then 11 := ⟨kX11_then, vX11_then, eX11_then, rfl⟩
abbrev iX11_year : MI := (yX11_year, cX11_year, 6, (some .int), 3)
theorem oX11_year : vOK iX11_year 11 := ⟨kX11_year, vX11_year, eX11_year, rfl⟩
abbrev iX11_tell : MI := (yX11_tell, cX11_tell, 4, (some .int), 3)
theorem oX11_tell : vOK iX11_tell 11 := ⟨kX11_tell, vX11_tell, eX11_tell, rfl⟩
abbrev iX11_forget : MI := (yX11_forget, cX11_forget, 2, (some .int), 0)
theorem oX11_forget : vOK iX11_forget 11 := ⟨kX11_forget, vX11_forget, eX11_forget, rfl⟩
abbrev iX11_words : MI := (yX11_words, cX11_words, 4, (some .int), 2)
theorem oX11_words : vOK iX11_words 11 := ⟨kX11_words, vX11_words, eX11_words, rfl⟩
abbrev iX11_look : MI := (yX11_look, cX11_look, 4, (some .int), 2)
theorem oX11_look : vOK iX11_look 11 := ⟨kX11_look, vX11_look, eX11_look, rfl⟩
abbrev iX11_hold : MI := (yX11_hold, cX11_hold, 2, (some .boolean), 1)
theorem oX11_hold : vOK iX11_hold 11 := ⟨kX11_hold, vX11_hold, eX11_hold, rfl⟩
abbrev iX11_restore : MI := (yX11_restore, cX11_restore, 2, (some .boolean), 1)
theorem oX11_restore : vOK iX11_restore 11 := ⟨kX11_restore, vX11_restore, eX11_restore, rfl⟩
abbrev iX11_count : MI := (yX11_count, cX11_count, 2, (some .int), 1)
theorem oX11_count : vOK iX11_count 11 := ⟨kX11_count, vX11_count, eX11_count, rfl⟩
abbrev iX11_isCorner : MI := (yX11_isCorner, cX11_isCorner, 2, (some .boolean), 1)
theorem oX11_isCorner : vOK iX11_isCorner 11 := ⟨kX11_isCorner, vX11_isCorner, eX11_isCorner, rfl⟩
abbrev iX11_isStreet : MI := (yX11_isStreet, cX11_isStreet, 2, (some .boolean), 1)
theorem oX11_isStreet : vOK iX11_isStreet 11 := ⟨kX11_isStreet, vX11_isStreet, eX11_isStreet, rfl⟩
abbrev iX11_isYoung : MI := (yX11_isYoung, cX11_isYoung, 2, (some .boolean), 1)
theorem oX11_isYoung : vOK iX11_isYoung 11 := ⟨kX11_isYoung, vX11_isYoung, eX11_isYoung, rfl⟩
abbrev iX11_isOut : MI := (yX11_isOut, cX11_isOut, 2, (some .boolean), 1)
theorem oX11_isOut : vOK iX11_isOut 11 := ⟨kX11_isOut, vX11_isOut, eX11_isOut, rfl⟩
abbrev iX11_isWord : MI := (yX11_isWord, cX11_isWord, 2, (some .boolean), 1)
theorem oX11_isWord : vOK iX11_isWord 11 := ⟨kX11_isWord, vX11_isWord, eX11_isWord, rfl⟩
abbrev iX11_isKnown : MI := (yX11_isKnown, cX11_isKnown, 2, (some .boolean), 1)
theorem oX11_isKnown : vOK iX11_isKnown 11 := ⟨kX11_isKnown, vX11_isKnown, eX11_isKnown, rfl⟩
abbrev iX11_isGlow : MI := (yX11_isGlow, cX11_isGlow, 1, (some .boolean), 1)
theorem oX11_isGlow : sOK iX11_isGlow := ⟨kX11_isGlow, sX11_isGlow⟩
abbrev iX11_areHours : MI := (yX11_areHours, cX11_areHours, 1, (some .boolean), 1)
theorem oX11_areHours : sOK iX11_areHours := ⟨kX11_areHours, sX11_areHours⟩
abbrev iX11_isEither : MI := (yX11_isEither, cX11_isEither, 1, (some .boolean), 1)
theorem oX11_isEither : sOK iX11_isEither := ⟨kX11_isEither, sX11_isEither⟩
abbrev iX11_sumOf : MI := (yX11_sumOf, cX11_sumOf, 3, (some .int), 1)
theorem oX11_sumOf : sOK iX11_sumOf := ⟨kX11_sumOf, sX11_sumOf⟩
abbrev iX11_beginThing : MI := (yX11_beginThing, cX11_beginThing, 1, none, 0)
theorem oX11_beginThing : vOK iX11_beginThing 11 := ⟨kX11_beginThing, vX11_beginThing, eX11_beginThing, rfl⟩
abbrev iX11_settle : MI := (yX11_settle, cX11_settle, 2, none, 0)
theorem oX11_settle : vOK iX11_settle 11 := ⟨kX11_settle, vX11_settle, eX11_settle, rfl⟩
abbrev iX12_init : MI := (yX12_init, cX12_init, 1, none, 0)
abbrev iX12_feed : MI := (yX12_feed, cX12_feed, 6, (some .int), 5)
theorem oX12_feed : vOK iX12_feed 12 := ⟨kX12_feed, vX12_feed, eX12_feed, rfl⟩
abbrev iX12_put : MI := (yX12_put, cX12_put, 3, none, 1)
theorem oX12_put : vOK iX12_put 12 := ⟨kX12_put, vX12_put, eX12_put, rfl⟩
abbrev iX12_back : MI := (yX12_back, cX12_back, 2, (some .int), 1)
theorem oX12_back : vOK iX12_back 12 := ⟨kX12_back, vX12_back, eX12_back, rfl⟩
abbrev iX12_byteAt : MI := (yX12_byteAt, cX12_byteAt, 2, (some .int), 1)
theorem oX12_byteAt : vOK iX12_byteAt 12 := ⟨kX12_byteAt, vX12_byteAt, eX12_byteAt, rfl⟩
abbrev iX12_isDigit : MI := (yX12_isDigit, cX12_isDigit, 1, (some .boolean), 1)
theorem oX12_isDigit : sOK iX12_isDigit := ⟨kX12_isDigit, sX12_isDigit⟩
abbrev iX12_isLetter : MI := (yX12_isLetter, cX12_isLetter, 1, (some .boolean), 1)
theorem oX12_isLetter : sOK iX12_isLetter := ⟨kX12_isLetter, sX12_isLetter⟩
abbrev iX12_appends : MI := (yX12_appends, cX12_appends, 3, (some .long), 2)
theorem oX12_appends : sOK iX12_appends := ⟨kX12_appends, sX12_appends⟩
abbrev iX12_word : MI := (yX12_word, cX12_word, 7, (some .long), 7)
theorem oX12_word : sOK iX12_word := ⟨kX12_word, sX12_word⟩
abbrev iX12_token : MI := (yX12_token, cX12_token, 6, none, 4)
theorem oX12_token : vOK iX12_token 12 := ⟨kX12_token, vX12_token, eX12_token, rfl⟩
abbrev iX12_cutsUp : MI := (yX12_cutsUp, cX12_cutsUp, 8, none, 0)
theorem oX12_cutsUp : vOK iX12_cutsUp 12 := ⟨kX12_cutsUp, vX12_cutsUp, eX12_cutsUp, rfl⟩
abbrev iX12_sign : MI := (yX12_sign, cX12_sign, 5, (some .int), 3)
theorem oX12_sign : vOK iX12_sign 12 := ⟨kX12_sign, vX12_sign, eX12_sign, rfl⟩
abbrev iX12_is : MI := (yX12_is, cX12_is, 2, (some .boolean), 1)
theorem oX12_is : vOK iX12_is 12 := ⟨kX12_is, vX12_is, eX12_is, rfl⟩
abbrev iX12_fail : MI := (yX12_fail, cX12_fail, 2, none, 1)
theorem oX12_fail : vOK iX12_fail 12 := ⟨kX12_fail, vX12_fail, eX12_fail, rfl⟩
abbrev iX12_wrong : MI := (yX12_wrong, cX12_wrong, 4, none, 2)
theorem oX12_wrong : vOK iX12_wrong 12 := ⟨kX12_wrong, vX12_wrong, eX12_wrong, rfl⟩
abbrev iX12_goesOn : MI := (yX12_goesOn, cX12_goesOn, 1, none, 0)
theorem oX12_goesOn : vOK iX12_goesOn 12 := ⟨kX12_goesOn, vX12_goesOn, eX12_goesOn, rfl⟩
abbrev iX12_must : MI := (yX12_must, cX12_must, 2, none, 1)
theorem oX12_must : vOK iX12_must 12 := ⟨kX12_must, vX12_must, eX12_must, rfl⟩
abbrev iX12_plain : MI := (yX12_plain, cX12_plain, 3, none, 1)
theorem oX12_plain : vOK iX12_plain 12 := ⟨kX12_plain, vX12_plain, eX12_plain, rfl⟩
abbrev iX12_read : MI := (yX12_read, cX12_read, 2, (some .int), 0)
theorem oX12_read : vOK iX12_read 12 := ⟨kX12_read, vX12_read, eX12_read, rfl⟩
abbrev iX12_place : MI := (yX12_place, cX12_place, 1, (some .int), 0)
theorem oX12_place : vOK iX12_place 12 := ⟨kX12_place, vX12_place, eX12_place, rfl⟩
abbrev iX12_roomFor : MI := (yX12_roomFor, cX12_roomFor, 3, none, 2)
theorem oX12_roomFor : vOK iX12_roomFor 12 := ⟨kX12_roomFor, vX12_roomFor, eX12_roomFor, rfl⟩
abbrev iX12_toldInt : MI := (yX12_toldInt, cX12_toldInt, 3, (some .int), 1)
theorem oX12_toldInt : vOK iX12_toldInt 12 := ⟨kX12_toldInt, vX12_toldInt, eX12_toldInt, rfl⟩
abbrev iX12_tellOne : MI := (yX12_tellOne, cX12_tellOne, 2, none, 0)
theorem oX12_tellOne : vOK iX12_tellOne 12 := ⟨kX12_tellOne, vX12_tellOne, eX12_tellOne, rfl⟩
abbrev iX12_named : MI := (yX12_named, cX12_named, 3, (some .int), 0)
theorem oX12_named : vOK iX12_named 12 := ⟨kX12_named, vX12_named, eX12_named, rfl⟩
abbrev iX12_endsName : MI := (yX12_endsName, cX12_endsName, 3, none, 2)
theorem oX12_endsName : vOK iX12_endsName 12 := ⟨kX12_endsName, vX12_endsName, eX12_endsName, rfl⟩
abbrev iX12_known : MI := (yX12_known, cX12_known, 3, (some .int), 0)
theorem oX12_known : vOK iX12_known 12 := ⟨kX12_known, vX12_known, eX12_known, rfl⟩
abbrev iX12_bounded : MI := (yX12_bounded, cX12_bounded, 4, (some .int), 2)
theorem oX12_bounded : vOK iX12_bounded 12 := ⟨kX12_bounded, vX12_bounded, eX12_bounded, rfl⟩
abbrev iX12_tellStreet : MI := (yX12_tellStreet, cX12_tellStreet, 3, none, 0)
theorem oX12_tellStreet : vOK iX12_tellStreet 12 := ⟨kX12_tellStreet, vX12_tellStreet, eX12_tellStreet, rfl⟩
abbrev iX12_tellYoung : MI := (yX12_tellYoung, cX12_tellYoung, 3, none, 0)
theorem oX12_tellYoung : vOK iX12_tellYoung 12 := ⟨kX12_tellYoung, vX12_tellYoung, eX12_tellYoung, rfl⟩
abbrev iX12_tellLaw : MI := (yX12_tellLaw, cX12_tellLaw, 4, none, 1)
theorem oX12_tellLaw : vOK iX12_tellLaw 12 := ⟨kX12_tellLaw, vX12_tellLaw, eX12_tellLaw, rfl⟩
abbrev iX12_term : MI := (yX12_term, cX12_term, 1, none, 0)
theorem oX12_term : vOK iX12_term 12 := ⟨kX12_term, vX12_term, eX12_term, rfl⟩
abbrev iX12_emit : MI := (yX12_emit, cX12_emit, 3, none, 2)
theorem oX12_emit : vOK iX12_emit 12 := ⟨kX12_emit, vX12_emit, eX12_emit, rfl⟩
abbrev iX12_comesOut : MI := (yX12_comesOut, cX12_comesOut, 3, none, 1)
theorem oX12_comesOut : vOK iX12_comesOut 12 := ⟨kX12_comesOut, vX12_comesOut, eX12_comesOut, rfl⟩
abbrev iX12_expression : MI := (yX12_expression, cX12_expression, 3, none, 0)
theorem oX12_expression : vOK iX12_expression 12 := ⟨kX12_expression, vX12_expression, eX12_expression, rfl⟩
abbrev iX12_unit : MI := (yX12_unit, cX12_unit, 1, none, 0)
theorem oX12_unit : vOK iX12_unit 12 := ⟨kX12_unit, vX12_unit, eX12_unit, rfl⟩
abbrev iX12_termOf : MI := (yX12_termOf, cX12_termOf, 8, (some .int), 2)
theorem oX12_termOf : vOK iX12_termOf 12 := ⟨kX12_termOf, vX12_termOf, eX12_termOf, rfl⟩
abbrev iX12_in : MI := (yX12_in, cX12_in, 3, (some .boolean), 3)
theorem oX12_in : sOK iX12_in := ⟨kX12_in, sX12_in⟩
abbrev iX12_within : MI := (yX12_within, cX12_within, 3, (some .int), 3)
theorem oX12_within : sOK iX12_within := ⟨kX12_within, sX12_within⟩
abbrev iX12_bits : MI := (yX12_bits, cX12_bits, 3, (some .int), 1)
theorem oX12_bits : sOK iX12_bits := ⟨kX12_bits, sX12_bits⟩
abbrev iX12_isCorner : MI := (yX12_isCorner, cX12_isCorner, 2, (some .boolean), 1)
theorem oX12_isCorner : vOK iX12_isCorner 12 := ⟨kX12_isCorner, vX12_isCorner, eX12_isCorner, rfl⟩
abbrev iX12_isStreet : MI := (yX12_isStreet, cX12_isStreet, 2, (some .boolean), 1)
theorem oX12_isStreet : vOK iX12_isStreet 12 := ⟨kX12_isStreet, vX12_isStreet, eX12_isStreet, rfl⟩
abbrev iX12_isYoung : MI := (yX12_isYoung, cX12_isYoung, 2, (some .boolean), 1)
theorem oX12_isYoung : vOK iX12_isYoung 12 := ⟨kX12_isYoung, vX12_isYoung, eX12_isYoung, rfl⟩
abbrev iX12_isWord : MI := (yX12_isWord, cX12_isWord, 2, (some .boolean), 1)
theorem oX12_isWord : vOK iX12_isWord 12 := ⟨kX12_isWord, vX12_isWord, eX12_isWord, rfl⟩
abbrev iX12_isOut : MI := (yX12_isOut, cX12_isOut, 2, (some .boolean), 1)
theorem oX12_isOut : vOK iX12_isOut 12 := ⟨kX12_isOut, vX12_isOut, eX12_isOut, rfl⟩
abbrev iX12_begins : MI := (yX12_begins, cX12_begins, 2, none, 0)
theorem oX12_begins : vOK iX12_begins 12 := ⟨kX12_begins, vX12_begins, eX12_begins, rfl⟩
abbrev iX12_keepsRow : MI := (yX12_keepsRow, cX12_keepsRow, 2, none, 0)
theorem oX12_keepsRow : vOK iX12_keepsRow 12 := ⟨kX12_keepsRow, vX12_keepsRow, eX12_keepsRow, rfl⟩
abbrev iX12_copies : MI := (yX12_copies, cX12_copies, 2, none, 0)
theorem oX12_copies : vOK iX12_copies 12 := ⟨kX12_copies, vX12_copies, eX12_copies, rfl⟩
abbrev iX12_copiesStill : MI := (yX12_copiesStill, cX12_copiesStill, 1, none, 0)
theorem oX12_copiesStill : vOK iX12_copiesStill 12 := ⟨kX12_copiesStill, vX12_copiesStill, eX12_copiesStill, rfl⟩
abbrev iX12_mixed : MI := (yX12_mixed, cX12_mixed, 3, (some .int), 2)
theorem oX12_mixed : sOK iX12_mixed := ⟨kX12_mixed, sX12_mixed⟩
abbrev iX12_lotOf : MI := (yX12_lotOf, cX12_lotOf, 3, (some .int), 2)
theorem oX12_lotOf : vOK iX12_lotOf 12 := ⟨kX12_lotOf, vX12_lotOf, eX12_lotOf, rfl⟩
abbrev iX12_isDraught : MI := (yX12_isDraught, cX12_isDraught, 1, (some .boolean), 0)
theorem oX12_isDraught : vOK iX12_isDraught 12 := ⟨kX12_isDraught, vX12_isDraught, eX12_isDraught, rfl⟩
abbrev iX12_lawTells : MI := (yX12_lawTells, cX12_lawTells, 7, (some .int), 2)
theorem oX12_lawTells : vOK iX12_lawTells 12 := ⟨kX12_lawTells, vX12_lawTells, eX12_lawTells, rfl⟩
abbrev iX12_looks : MI := (yX12_looks, cX12_looks, 4, none, 3)
theorem oX12_looks : vOK iX12_looks 12 := ⟨kX12_looks, vX12_looks, eX12_looks, rfl⟩
abbrev iX12_glowsOf : MI := (yX12_glowsOf, cX12_glowsOf, 3, (some .int), 2)
theorem oX12_glowsOf : vOK iX12_glowsOf 12 := ⟨kX12_glowsOf, vX12_glowsOf, eX12_glowsOf, rfl⟩
abbrev iX12_wearsOf : MI := (yX12_wearsOf, cX12_wearsOf, 3, (some .int), 2)
theorem oX12_wearsOf : vOK iX12_wearsOf 12 := ⟨kX12_wearsOf, vX12_wearsOf, eX12_wearsOf, rfl⟩
abbrev iX12_coolsOf : MI := (yX12_coolsOf, cX12_coolsOf, 2, (some .int), 1)
theorem oX12_coolsOf : vOK iX12_coolsOf 12 := ⟨kX12_coolsOf, vX12_coolsOf, eX12_coolsOf, rfl⟩
abbrev iX12_doesLeave : MI := (yX12_doesLeave, cX12_doesLeave, 2, (some .boolean), 1)
theorem oX12_doesLeave : vOK iX12_doesLeave 12 := ⟨kX12_doesLeave, vX12_doesLeave, eX12_doesLeave, rfl⟩
abbrev iX12_says : MI := (yX12_says, cX12_says, 5, none, 2)
theorem oX12_says : vOK iX12_says 12 := ⟨kX12_says, vX12_says, eX12_says, rfl⟩
abbrev iX12_hourGoes : MI := (yX12_hourGoes, cX12_hourGoes, 3, none, 0)
theorem oX12_hourGoes : vOK iX12_hourGoes 12 := ⟨kX12_hourGoes, vX12_hourGoes, eX12_hourGoes, rfl⟩
abbrev iX12_goes : MI := (yX12_goes, cX12_goes, 3, none, 1)
theorem oX12_goes : vOK iX12_goes 12 := ⟨kX12_goes, vX12_goes, eX12_goes, rfl⟩
abbrev iX12_lightAt : MI := (yX12_lightAt, cX12_lightAt, 4, (some .int), 1)
theorem oX12_lightAt : vOK iX12_lightAt 12 := ⟨kX12_lightAt, vX12_lightAt, eX12_lightAt, rfl⟩
abbrev iX12_needsOf : MI := (yX12_needsOf, cX12_needsOf, 4, (some .int), 1)
theorem oX12_needsOf : vOK iX12_needsOf 12 := ⟨kX12_needsOf, vX12_needsOf, eX12_needsOf, rfl⟩
abbrev iX12_litBits : MI := (yX12_litBits, cX12_litBits, 3, (some .int), 0)
theorem oX12_litBits : vOK iX12_litBits 12 := ⟨kX12_litBits, vX12_litBits, eX12_litBits, rfl⟩
abbrev iX12_corner : MI := (yX12_corner, cX12_corner, 3, (some .int), 2)
theorem oX12_corner : vOK iX12_corner 12 := ⟨kX12_corner, vX12_corner, eX12_corner, rfl⟩
abbrev iX12_outAt : MI := (yX12_outAt, cX12_outAt, 4, (some .int), 1)
theorem oX12_outAt : vOK iX12_outAt 12 := ⟨kX12_outAt, vX12_outAt, eX12_outAt, rfl⟩
abbrev iX12_isEnd : MI := (yX12_isEnd, cX12_isEnd, 3, (some .boolean), 2)
theorem oX12_isEnd : vOK iX12_isEnd 12 := ⟨kX12_isEnd, vX12_isEnd, eX12_isEnd, rfl⟩
abbrev iX12_otherEnd : MI := (yX12_otherEnd, cX12_otherEnd, 3, (some .int), 2)
theorem oX12_otherEnd : vOK iX12_otherEnd 12 := ⟨kX12_otherEnd, vX12_otherEnd, eX12_otherEnd, rfl⟩
abbrev iX12_streetsAt : MI := (yX12_streetsAt, cX12_streetsAt, 4, (some .int), 1)
theorem oX12_streetsAt : vOK iX12_streetsAt 12 := ⟨kX12_streetsAt, vX12_streetsAt, eX12_streetsAt, rfl⟩
abbrev iX12_street : MI := (yX12_street, cX12_street, 3, (some .int), 2)
theorem oX12_street : vOK iX12_street 12 := ⟨kX12_street, vX12_street, eX12_street, rfl⟩
abbrev iX12_young : MI := (yX12_young, cX12_young, 3, (some .int), 2)
theorem oX12_young : vOK iX12_young 12 := ⟨kX12_young, vX12_young, eX12_young, rfl⟩
abbrev iX12_word_ : MI := (yX12_word_, cX12_word_, 3, (some .int), 2)
theorem oX12_word_ : vOK iX12_word_ 12 := ⟨kX12_word_, vX12_word_, eX12_word_, rfl⟩
abbrev iX12_tells : MI := (yX12_tells, cX12_tells, 4, (some .int), 3)
theorem oX12_tells : vOK iX12_tells 12 := ⟨kX12_tells, vX12_tells, eX12_tells, rfl⟩
abbrev iX12_records : MI := (yX12_records, cX12_records, 2, none, 0)
theorem oX12_records : vOK iX12_records 12 := ⟨kX12_records, vX12_records, eX12_records, rfl⟩
abbrev iX12_step : MI := (yX12_step, cX12_step, 2, (some .int), 1)
theorem oX12_step : vOK iX12_step 12 := ⟨kX12_step, vX12_step, eX12_step, rfl⟩
abbrev iX12_say : MI := (yX12_say, cX12_say, 3, (some .int), 2)
theorem oX12_say : vOK iX12_say 12 := ⟨kX12_say, vX12_say, eX12_say, rfl⟩
abbrev iX12_move : MI := (yX12_move, cX12_move, 3, (some .boolean), 2)
theorem oX12_move : vOK iX12_move 12 := ⟨kX12_move, vX12_move, eX12_move, rfl⟩
abbrev iX12_rouge : MI := (yX12_rouge, cX12_rouge, 2, (some .boolean), 1)
theorem oX12_rouge : vOK iX12_rouge 12 := ⟨kX12_rouge, vX12_rouge, eX12_rouge, rfl⟩
abbrev iX12_hours : MI := (yX12_hours, cX12_hours, 2, (some .int), 1)
theorem oX12_hours : vOK iX12_hours 12 := ⟨kX12_hours, vX12_hours, eX12_hours, rfl⟩
abbrev iX12_undo : MI := (yX12_undo, cX12_undo, 2, (some .boolean), 0)
theorem oX12_undo : vOK iX12_undo 12 := ⟨kX12_undo, vX12_undo, eX12_undo, rfl⟩
abbrev iX12_darkens : MI := (yX12_darkens, cX12_darkens, 3, (some .int), 1)
theorem oX12_darkens : vOK iX12_darkens 12 := ⟨kX12_darkens, vX12_darkens, eX12_darkens, rfl⟩
abbrev iX12_fillsBest : MI := (yX12_fillsBest, cX12_fillsBest, 7, (some .int), 0)
theorem oX12_fillsBest : vOK iX12_fillsBest 12 := ⟨kX12_fillsBest, vX12_fillsBest, eX12_fillsBest, rfl⟩
abbrev iX12_best : MI := (yX12_best, cX12_best, 3, (some .int), 1)
theorem oX12_best : vOK iX12_best 12 := ⟨kX12_best, vX12_best, eX12_best, rfl⟩
abbrev iX12_glowBy : MI := (yX12_glowBy, cX12_glowBy, 3, (some .int), 2)
theorem oX12_glowBy : vOK iX12_glowBy 12 := ⟨kX12_glowBy, vX12_glowBy, eX12_glowBy, rfl⟩
abbrev iX12_telling : MI := (yX12_telling, cX12_telling, 5, (some .int), 2)
theorem oX12_telling : vOK iX12_telling 12 := ⟨kX12_telling, vX12_telling, eX12_telling, rfl⟩
abbrev iX12_firstOut : MI := (yX12_firstOut, cX12_firstOut, 2, (some .int), 0)
theorem oX12_firstOut : vOK iX12_firstOut 12 := ⟨kX12_firstOut, vX12_firstOut, eX12_firstOut, rfl⟩
abbrev iX12_keepBy : MI := (yX12_keepBy, cX12_keepBy, 2, (some .int), 1)
theorem oX12_keepBy : vOK iX12_keepBy 12 := ⟨kX12_keepBy, vX12_keepBy, eX12_keepBy, rfl⟩
abbrev iX12_keep : MI := (yX12_keep, cX12_keep, 3, (some .int), 0)
theorem oX12_keep : vOK iX12_keep 12 := ⟨kX12_keep, vX12_keep, eX12_keep, rfl⟩
abbrev iX12_twins : MI := (yX12_twins, cX12_twins, 9, (some .int), 1)
theorem oX12_twins : vOK iX12_twins 12 := ⟨kX12_twins, vX12_twins, eX12_twins, rfl⟩
abbrev iX12_fillsFar : MI := (yX12_fillsFar, cX12_fillsFar, 9, none, 3)
theorem oX12_fillsFar : vOK iX12_fillsFar 12 := ⟨kX12_fillsFar, vX12_fillsFar, eX12_fillsFar, rfl⟩
abbrev iX12_farTo : MI := (yX12_farTo, cX12_farTo, 2, (some .int), 1)
theorem oX12_farTo : vOK iX12_farTo 12 := ⟨kX12_farTo, vX12_farTo, eX12_farTo, rfl⟩
abbrev iX12_steps : MI := (yX12_steps, cX12_steps, 3, (some .int), 2)
theorem oX12_steps : vOK iX12_steps 12 := ⟨kX12_steps, vX12_steps, eX12_steps, rfl⟩
abbrev iX12_litNow : MI := (yX12_litNow, cX12_litNow, 1, (some .int), 0)
theorem oX12_litNow : vOK iX12_litNow 12 := ⟨kX12_litNow, vX12_litNow, eX12_litNow, rfl⟩
abbrev iX12_dark : MI := (yX12_dark, cX12_dark, 3, (some .int), 2)
theorem oX12_dark : vOK iX12_dark 12 := ⟨kX12_dark, vX12_dark, eX12_dark, rfl⟩
abbrev iX12_fillsLit : MI := (yX12_fillsLit, cX12_fillsLit, 3, none, 2)
theorem oX12_fillsLit : vOK iX12_fillsLit 12 := ⟨kX12_fillsLit, vX12_fillsLit, eX12_fillsLit, rfl⟩
abbrev iX12_safe : MI := (yX12_safe, cX12_safe, 4, (some .int), 1)
theorem oX12_safe : vOK iX12_safe 12 := ⟨kX12_safe, vX12_safe, eX12_safe, rfl⟩
abbrev iX12_bridges : MI := (yX12_bridges, cX12_bridges, 4, (some .int), 0)
theorem oX12_bridges : vOK iX12_bridges 12 := ⟨kX12_bridges, vX12_bridges, eX12_bridges, rfl⟩
abbrev iX12_cut : MI := (yX12_cut, cX12_cut, 6, (some .int), 2)
theorem oX12_cut : vOK iX12_cut 12 := ⟨kX12_cut, vX12_cut, eX12_cut, rfl⟩
abbrev iX12_round : MI := (yX12_round, cX12_round, 8, (some .int), 0)
theorem oX12_round : vOK iX12_round 12 := ⟨kX12_round, vX12_round, eX12_round, rfl⟩
abbrev iX12_brightest : MI := (yX12_brightest, cX12_brightest, 4, (some .int), 1)
theorem oX12_brightest : vOK iX12_brightest 12 := ⟨kX12_brightest, vX12_brightest, eX12_brightest, rfl⟩
abbrev iX12_gather : MI := (yX12_gather, cX12_gather, 7, (some .int), 1)
theorem oX12_gather : vOK iX12_gather 12 := ⟨kX12_gather, vX12_gather, eX12_gather, rfl⟩
abbrev iX12_moves : MI := (yX12_moves, cX12_moves, 9, (some .int), 2)
theorem oX12_moves : vOK iX12_moves 12 := ⟨kX12_moves, vX12_moves, eX12_moves, rfl⟩
abbrev iX12_tree : MI := (yX12_tree, cX12_tree, 7, (some .int), 0)
theorem oX12_tree : vOK iX12_tree 12 := ⟨kX12_tree, vX12_tree, eX12_tree, rfl⟩
abbrev iX12_homeBits : MI := (yX12_homeBits, cX12_homeBits, 3, (some .int), 0)
theorem oX12_homeBits : vOK iX12_homeBits 12 := ⟨kX12_homeBits, vX12_homeBits, eX12_homeBits, rfl⟩
abbrev iX12_glowIn : MI := (yX12_glowIn, cX12_glowIn, 3, (some .int), 2)
theorem oX12_glowIn : vOK iX12_glowIn 12 := ⟨kX12_glowIn, vX12_glowIn, eX12_glowIn, rfl⟩
abbrev iX12_then : MI := (yX12_then, cX12_then, 3, (some .int), 2)
theorem oX12_then : vOK iX12_then 12 := ⟨kX12_then, vX12_then, eX12_then, rfl⟩
abbrev iX12_year : MI := (yX12_year, cX12_year, 6, (some .int), 3)
theorem oX12_year : vOK iX12_year 12 := ⟨kX12_year, vX12_year, eX12_year, rfl⟩
abbrev iX12_tell : MI := (yX12_tell, cX12_tell, 4, (some .int), 3)
theorem oX12_tell : vOK iX12_tell 12 := ⟨kX12_tell, vX12_tell, eX12_tell, rfl⟩
abbrev iX12_forget : MI := (yX12_forget, cX12_forget, 2, (some .int), 0)
theorem oX12_forget : vOK iX12_forget 12 := ⟨kX12_forget, vX12_forget, eX12_forget, rfl⟩
abbrev iX12_wouldGlow : MI := (yX12_wouldGlow, cX12_wouldGlow, 3, (some .int), 2)
theorem oX12_wouldGlow : vOK iX12_wouldGlow 12 := ⟨kX12_wouldGlow, vX12_wouldGlow, eX12_wouldGlow, rfl⟩
abbrev iX12_wordBits : MI := (yX12_wordBits, cX12_wordBits, 6, (some .int), 1)
theorem oX12_wordBits : vOK iX12_wordBits 12 := ⟨kX12_wordBits, vX12_wordBits, eX12_wordBits, rfl⟩
abbrev iX12_words : MI := (yX12_words, cX12_words, 4, (some .int), 2)
theorem oX12_words : vOK iX12_words 12 := ⟨kX12_words, vX12_words, eX12_words, rfl⟩
abbrev iX12_look : MI := (yX12_look, cX12_look, 9, (some .int), 2)
theorem oX12_look : vOK iX12_look 12 := ⟨kX12_look, vX12_look, eX12_look, rfl⟩
abbrev iX12_hold : MI := (yX12_hold, cX12_hold, 3, (some .boolean), 1)
theorem oX12_hold : vOK iX12_hold 12 := ⟨kX12_hold, vX12_hold, eX12_hold, rfl⟩
abbrev iX12_restore : MI := (yX12_restore, cX12_restore, 3, (some .boolean), 1)
theorem oX12_restore : vOK iX12_restore 12 := ⟨kX12_restore, vX12_restore, eX12_restore, rfl⟩
abbrev iX12_sumNow : MI := (yX12_sumNow, cX12_sumNow, 5, (some .int), 2)
theorem oX12_sumNow : vOK iX12_sumNow 12 := ⟨kX12_sumNow, vX12_sumNow, eX12_sumNow, rfl⟩
abbrev iX12_count : MI := (yX12_count, cX12_count, 4, (some .int), 1)
theorem oX12_count : vOK iX12_count 12 := ⟨kX12_count, vX12_count, eX12_count, rfl⟩
abbrev iJ11_isValidCodePoint_9a6ad : MI := (yJ11_isValidCodePoint_9a6ad, cJ11_isValidCodePoint_9a6ad, 2, (some .boolean), 1)
theorem oJ11_isValidCodePoint_9a6ad : sOK iJ11_isValidCodePoint_9a6ad := ⟨kJ11_isValidCodePoint_9a6ad, sJ11_isValidCodePoint_9a6ad⟩
abbrev iJ11_highSurrogate_5068e : MI := (yJ11_highSurrogate_5068e, cJ11_highSurrogate_5068e, 1, (some .char), 1)
theorem oJ11_highSurrogate_5068e : sOK iJ11_highSurrogate_5068e := ⟨kJ11_highSurrogate_5068e, sJ11_highSurrogate_5068e⟩
abbrev iJ11_lowSurrogate_5068e : MI := (yJ11_lowSurrogate_5068e, cJ11_lowSurrogate_5068e, 1, (some .char), 1)
theorem oJ11_lowSurrogate_5068e : sOK iJ11_lowSurrogate_5068e := ⟨kJ11_lowSurrogate_5068e, sJ11_lowSurrogate_5068e⟩
abbrev iJ6_bitCount_0f7a4 : MI := (yJ6_bitCount_0f7a4, cJ6_bitCount_0f7a4, 1, (some .int), 1)
theorem oJ6_bitCount_0f7a4 : sOK iJ6_bitCount_0f7a4 := ⟨kJ6_bitCount_0f7a4, sJ6_bitCount_0f7a4⟩
abbrev iJ9_abs_0f7a4 : MI := (yJ9_abs_0f7a4, cJ9_abs_0f7a4, 1, (some .int), 1)
theorem oJ9_abs_0f7a4 : sOK iJ9_abs_0f7a4 := ⟨kJ9_abs_0f7a4, sJ9_abs_0f7a4⟩
abbrev iJ9_max_7cf53 : MI := (yJ9_max_7cf53, cJ9_max_7cf53, 2, (some .int), 2)
theorem oJ9_max_7cf53 : sOK iJ9_max_7cf53 := ⟨kJ9_max_7cf53, sJ9_max_7cf53⟩
abbrev iJ9_min_7cf53 : MI := (yJ9_min_7cf53, cJ9_min_7cf53, 2, (some .int), 2)
theorem oJ9_min_7cf53 : sOK iJ9_min_7cf53 := ⟨kJ9_min_7cf53, sJ9_min_7cf53⟩
abbrev iJ0_length_8abf5 : MI := (yJ0_length_8abf5, cJ0_length_8abf5, 1, (some .int), 0)
abbrev iJ0_charAt_5068e : MI := (yJ0_charAt_5068e, cJ0_charAt_5068e, 2, (some .char), 1)
abbrev iJ0_indexOf_0f7a4 : MI := (yJ0_indexOf_0f7a4, cJ0_indexOf_0f7a4, 2, (some .int), 1)
abbrev iJ0_indexOf_7cf53 : MI := (yJ0_indexOf_7cf53, cJ0_indexOf_7cf53, 3, (some .int), 2)
abbrev iJ0_coder_7d493 : MI := (yJ0_coder_7d493, cJ0_coder_7d493, 1, (some .byte), 0)
abbrev iJ0_isLatin1_aae02 : MI := (yJ0_isLatin1_aae02, cJ0_isLatin1_aae02, 1, (some .boolean), 0)
abbrev iJ0_checkIndex_df160 : MI := (yJ0_checkIndex_df160, cJ0_checkIndex_df160, 2, none, 2)
theorem oJ0_checkIndex_df160 : sOK iJ0_checkIndex_df160 := ⟨kJ0_checkIndex_df160, sJ0_checkIndex_df160⟩
abbrev iJ0_checkBoundsBeginEnd_23922 : MI := (yJ0_checkBoundsBeginEnd_23922, cJ0_checkBoundsBeginEnd_23922, 3, none, 3)
theorem oJ0_checkBoundsBeginEnd_23922 : sOK iJ0_checkBoundsBeginEnd_23922 := ⟨kJ0_checkBoundsBeginEnd_23922, sJ0_checkBoundsBeginEnd_23922⟩
abbrev iJ1_charAt_3b067 : MI := (yJ1_charAt_3b067, cJ1_charAt_3b067, 2, (some .char), 2)
theorem oJ1_charAt_3b067 : sOK iJ1_charAt_3b067 := ⟨kJ1_charAt_3b067, sJ1_charAt_3b067⟩
abbrev iJ1_canEncode_9a6ad : MI := (yJ1_canEncode_9a6ad, cJ1_canEncode_9a6ad, 1, (some .boolean), 1)
theorem oJ1_canEncode_9a6ad : sOK iJ1_canEncode_9a6ad := ⟨kJ1_canEncode_9a6ad, sJ1_canEncode_9a6ad⟩
abbrev iJ1_indexOf_4cfef : MI := (yJ1_indexOf_4cfef, cJ1_indexOf_4cfef, 4, (some .int), 4)
theorem oJ1_indexOf_4cfef : sOK iJ1_indexOf_4cfef := ⟨kJ1_indexOf_4cfef, sJ1_indexOf_4cfef⟩
abbrev iJ1_indexOfChar_4cfef : MI := (yJ1_indexOfChar_4cfef, cJ1_indexOfChar_4cfef, 6, (some .int), 4)
theorem oJ1_indexOfChar_4cfef : sOK iJ1_indexOfChar_4cfef := ⟨kJ1_indexOfChar_4cfef, sJ1_indexOfChar_4cfef⟩
abbrev iJ2_getChar_3b067 : MI := (yJ2_getChar_3b067, cJ2_getChar_3b067, 2, (some .char), 2)
theorem oJ2_getChar_3b067 : sOK iJ2_getChar_3b067 := ⟨kJ2_getChar_3b067, sJ2_getChar_3b067⟩
abbrev iJ2_length_9d52b : MI := (yJ2_length_9d52b, cJ2_length_9d52b, 1, (some .int), 1)
theorem oJ2_length_9d52b : sOK iJ2_length_9d52b := ⟨kJ2_length_9d52b, sJ2_length_9d52b⟩
abbrev iJ2_indexOf_4cfef : MI := (yJ2_indexOf_4cfef, cJ2_indexOf_4cfef, 4, (some .int), 4)
theorem oJ2_indexOf_4cfef : sOK iJ2_indexOf_4cfef := ⟨kJ2_indexOf_4cfef, sJ2_indexOf_4cfef⟩
abbrev iJ2_indexOfChar_4cfef : MI := (yJ2_indexOfChar_4cfef, cJ2_indexOfChar_4cfef, 4, (some .int), 4)
theorem oJ2_indexOfChar_4cfef : sOK iJ2_indexOfChar_4cfef := ⟨kJ2_indexOfChar_4cfef, sJ2_indexOfChar_4cfef⟩
abbrev iJ2_indexOfCharUnsafe_4cfef : MI := (yJ2_indexOfCharUnsafe_4cfef, cJ2_indexOfCharUnsafe_4cfef, 5, (some .int), 4)
theorem oJ2_indexOfCharUnsafe_4cfef : sOK iJ2_indexOfCharUnsafe_4cfef := ⟨kJ2_indexOfCharUnsafe_4cfef, sJ2_indexOfCharUnsafe_4cfef⟩
abbrev iJ2_indexOfSupplementary_4cfef : MI := (yJ2_indexOfSupplementary_4cfef, cJ2_indexOfSupplementary_4cfef, 7, (some .int), 4)
theorem oJ2_indexOfSupplementary_4cfef : sOK iJ2_indexOfSupplementary_4cfef := ⟨kJ2_indexOfSupplementary_4cfef, sJ2_indexOfSupplementary_4cfef⟩
abbrev iJ2_charAt_3b067 : MI := (yJ2_charAt_3b067, cJ2_charAt_3b067, 2, (some .char), 2)
theorem oJ2_charAt_3b067 : sOK iJ2_charAt_3b067 := ⟨kJ2_charAt_3b067, sJ2_charAt_3b067⟩
abbrev iJ2_checkIndex_2214a : MI := (yJ2_checkIndex_2214a, cJ2_checkIndex_2214a, 2, none, 2)
theorem oJ2_checkIndex_2214a : sOK iJ2_checkIndex_2214a := ⟨kJ2_checkIndex_2214a, sJ2_checkIndex_2214a⟩
abbrev iJ2_checkBoundsBeginEnd_d044e : MI := (yJ2_checkBoundsBeginEnd_d044e, cJ2_checkBoundsBeginEnd_d044e, 3, none, 3)
theorem oJ2_checkBoundsBeginEnd_d044e : sOK iJ2_checkBoundsBeginEnd_d044e := ⟨kJ2_checkBoundsBeginEnd_d044e, sJ2_checkBoundsBeginEnd_d044e⟩
abbrev iJ7_fill_53178 : MI := (yJ7_fill_53178, cJ7_fill_53178, 4, none, 2)
theorem oJ7_fill_53178 : sOK iJ7_fill_53178 := ⟨kJ7_fill_53178, sJ7_fill_53178⟩
abbrev iJ3_checkIndex_8e157 : MI := (yJ3_checkIndex_8e157, cJ3_checkIndex_8e157, 3, (some .int), 3)
theorem oJ3_checkIndex_8e157 : sOK iJ3_checkIndex_8e157 := ⟨kJ3_checkIndex_8e157, sJ3_checkIndex_8e157⟩
abbrev iJ3_checkFromToIndex_8c36e : MI := (yJ3_checkFromToIndex_8c36e, cJ3_checkFromToIndex_8c36e, 4, (some .int), 4)
theorem oJ3_checkFromToIndex_8c36e : sOK iJ3_checkFromToIndex_8c36e := ⟨kJ3_checkFromToIndex_8c36e, sJ3_checkFromToIndex_8c36e⟩
theorem pnX0 : plainName RX0 = true := by decide +kernel
theorem pnX1 : plainName RX1 = true := by decide +kernel
theorem pnX2 : plainName RX2 = true := by decide +kernel
theorem pnX3 : plainName RX3 = true := by decide +kernel
theorem pnX4 : plainName RX4 = true := by decide +kernel
theorem pnX5 : plainName RX5 = true := by decide +kernel
theorem pnX6 : plainName RX6 = true := by decide +kernel
theorem pnX7 : plainName RX7 = true := by decide +kernel
theorem pnX8 : plainName RX8 = true := by decide +kernel
theorem pnX9 : plainName RX9 = true := by decide +kernel
theorem pnX10 : plainName RX10 = true := by decide +kernel
theorem pnX11 : plainName RX11 = true := by decide +kernel
theorem pnX12 : plainName RX12 = true := by decide +kernel
theorem pnJ6 : plainName RJ6 = true := by decide +kernel
theorem pnJ7 : plainName RJ7 = true := by decide +kernel

-- 14.ctor: the constructors (by program: wip/whole/gen/ctor.py)
theorem agree_of {L1 L2 : List Lay} {lo hi : Nat} (h : (List.range (hi - lo)).all (fun k => decide (L1[lo + k]? = L2[lo + k]?)) = true) {id : Nat} (hr : lo ≤ id ∧ id < hi) : L1[id]? = L2[id]? := by
  have := List.all_eq_true.mp h (id - lo) (List.mem_range.mpr (by omega))
  simp only [decide_eq_true_eq] at this
  rwa [show lo + (id - lo) = id by omega] at this
section CTR
variable {g : GG} {i : MI} {d nc ns : Nat} {res : Option RS} {P : PT} {pc : Nat} {ls : List (Option Value)} {st : List Value} {L L2 : List Lay} {M M2 : Mem}
theorem z_new (hP : IsW g i d nc ns res P) {idx id ci N : Nat} {C : String} {T : u_T} (hid : L.length = id) (hc : vwCl[ci]? = some (C, T, N)) (hcl : Cond.classLink i.1.cls idx C ∈ lw_tbl) (hin : Cond.instantiable C N ∈ lw_tbl) (hini : Cond.initialized C ∈ lw_tbl) (hcap : L.length + 1 ≤ nc ∧ szL L + N ≤ ns) (hv : M2 = nM M id) (hd : decode i.2.1 pc = .ok (.new idx, 3)) (hL : L ++ [.inr (ci, List.replicate N none)] = L2) (k : P (pc + 3) ls (.ref id :: st) L2 M2) : P pc ls st L M := by
  subst hid; subst hL; subst hv
  exact x_new hP hc hcl hin hini hcap hd k
theorem z_newa (hP : IsW g i d nc ns res P) {atype : ArrayType} {ty : FieldType} {n : Int32} {N t0 id : Nat} (hid : L.length = id) (ht : (gT g)[t0]? = some (g.2.1 ty, ty)) (hp : ty = .int ∨ ty = .long ∨ ty = .byte ∨ ty = .boolean) (hac : Cond.arrayClass ty ∈ lw_tbl) (hn0 : ¬ n < 0) (hN : n.toNatClampNeg = N) (hbig : N ≤ 10000) (hcap : L.length + 1 ≤ nc ∧ szL L + N ≤ ns) (hv : M2 = nM M id) (hd : decode i.2.1 pc = .ok (.newarray atype, 2)) (hty : newarray.typeOf atype = ty) (hL : L ++ [.inl (ty, N)] = L2) (k : P (pc + 2) ls (.ref id :: st) L2 M2) : P pc ls (.int n :: st) L M := by
  subst hid; subst hL; subst hv
  exact x_newa hP hty ht hp hac hn0 hN hbig hcap hd k
theorem z_putF (hP : IsW g i d nc ns res P) {idx ci k id r : Nat} {ty : FieldType} {rf : List (Option Nat)} (hf : fOK i.1.cls idx ci k ty true) (hty2 : (∃ C, ty = .object C) ∨ ∃ t, ty = .array t) (hnmi : i.1.name = "<init>") (hci : (vwCl[ci]?).map (fun q => q.1) = some i.1.cls) (hL : L[id]? = some (.inr (ci, rf))) (hlen : k < rf.length) (hL2 : L.set id (.inr (ci, rf.set k (some r))) = L2) (hd : decode i.2.1 pc = .ok (.putfield idx, 3)) (kk : P (pc + 3) ls st L2 M) : P pc ls (.ref r :: .ref id :: st) L M := by
  subst hL2
  exact x_putF hP hf hty2 hnmi hci hL hlen hd kk
theorem z_putI (hP : IsW g i d nc ns res P) {idx ci k id : Nat} {rf : List (Option Nat)} {x : Int32} (hf : fOK i.1.cls idx ci k .int false) (hL : L[id]? = some (.inr (ci, rf))) (hv : M2 = sI M id k x) (hd : decode i.2.1 pc = .ok (.putfield idx, 3)) (kk : P (pc + 3) ls st L M2) : P pc ls (.int x :: .ref id :: st) L M := x_putI hP hf hL hd (hv ▸ kk)
theorem z_putZ (hP : IsW g i d nc ns res P) {idx ci k id : Nat} {rf : List (Option Nat)} {x : Int32} (hf : fOK i.1.cls idx ci k .boolean false) (hx : x = 0 ∨ x = 1) (hL : L[id]? = some (.inr (ci, rf))) (hv : M2 = sI M id k x) (hd : decode i.2.1 pc = .ok (.putfield idx, 3)) (kk : P (pc + 3) ls st L M2) : P pc ls (.int x :: .ref id :: st) L M := x_putZ hP hf hx hL hd (hv ▸ kk)
theorem z_putM (hP : IsW g i d nc ns res P) {idx ci k id r : Nat} {C : String} {rf : List (Option Nat)} (hf : fOK i.1.cls idx ci k (.object C) false) (hL : L[id]? = some (.inr (ci, rf))) (hv : M2 = sR M id k (some r)) (hd : decode i.2.1 pc = .ok (.putfield idx, 3)) (kk : P (pc + 3) ls st L M2) : P pc ls (.ref r :: .ref id :: st) L M := x_putM hP hf hL hd (hv ▸ kk)
theorem z_last (hP : IsW g i d nc ns res P) {id n ix : Nat} {x : Int32} {y : Int64} (hL : L[id]? = some (.inl (.long, n))) (hix : x.toNatClampNeg = ix) (hin : ¬ (x < 0 ∨ n ≤ x.toNatClampNeg)) (hv : M2 = sJ M id ix y) (hd : decode i.2.1 pc = .ok (.lastore, 1)) (k : P (pc + 1) ls st L M2) : P pc ls (.long y :: .int x :: .ref id :: st) L M := by
  subst hv; subst hix
  exact x_last hP hL hin hd k
end CTR
def LS0 : List Lay := []
def LS1 : List Lay := LS0 ++ [.inr (11, List.replicate 12 none)]
def LS2 : List Lay := LS1 ++ [.inr (9, List.replicate 17 none)]
def LS3 : List Lay := LS2 ++ [.inl (.int, 10)]
def LS4 : List Lay := LS3.set 1 (.inr (9, [some 2, none, none, none, none, none, none, none, none, none, none, none, none, none, none, none, none]))
def LS5 : List Lay := LS4 ++ [.inl (.int, 10)]
def LS6 : List Lay := LS5.set 1 (.inr (9, [some 2, some 3, none, none, none, none, none, none, none, none, none, none, none, none, none, none, none]))
def LS7 : List Lay := LS6 ++ [.inl (.int, 10)]
def LS8 : List Lay := LS7.set 1 (.inr (9, [some 2, some 3, some 4, none, none, none, none, none, none, none, none, none, none, none, none, none, none]))
def LS9 : List Lay := LS8 ++ [.inl (.int, 6)]
def LS10 : List Lay := LS9.set 1 (.inr (9, [some 2, some 3, some 4, some 5, none, none, none, none, none, none, none, none, none, none, none, none, none]))
def LS11 : List Lay := LS10 ++ [.inl (.int, 6)]
def LS12 : List Lay := LS11.set 1 (.inr (9, [some 2, some 3, some 4, some 5, some 6, none, none, none, none, none, none, none, none, none, none, none, none]))
def LS13 : List Lay := LS12 ++ [.inl (.int, 6)]
def LS14 : List Lay := LS13.set 1 (.inr (9, [some 2, some 3, some 4, some 5, some 6, some 7, none, none, none, none, none, none, none, none, none, none, none]))
def LS15 : List Lay := LS14 ++ [.inl (.int, 5)]
def LS16 : List Lay := LS15.set 1 (.inr (9, [some 2, some 3, some 4, some 5, some 6, some 7, some 8, none, none, none, none, none, none, none, none, none, none]))
def LS17 : List Lay := LS16 ++ [.inl (.int, 4)]
def LS18 : List Lay := LS17.set 1 (.inr (9, [some 2, some 3, some 4, some 5, some 6, some 7, some 8, some 9, none, none, none, none, none, none, none, none, none]))
def LS19 : List Lay := LS18 ++ [.inl (.int, 407)]
def LS20 : List Lay := LS19.set 1 (.inr (9, [some 2, some 3, some 4, some 5, some 6, some 7, some 8, some 9, some 10, none, none, none, none, none, none, none, none]))
def LS21 : List Lay := LS20 ++ [.inr (9, List.replicate 17 none)]
def LS22 : List Lay := LS21 ++ [.inl (.int, 10)]
def LS23 : List Lay := LS22.set 11 (.inr (9, [some 12, none, none, none, none, none, none, none, none, none, none, none, none, none, none, none, none]))
def LS24 : List Lay := LS23 ++ [.inl (.int, 10)]
def LS25 : List Lay := LS24.set 11 (.inr (9, [some 12, some 13, none, none, none, none, none, none, none, none, none, none, none, none, none, none, none]))
def LS26 : List Lay := LS25 ++ [.inl (.int, 10)]
def LS27 : List Lay := LS26.set 11 (.inr (9, [some 12, some 13, some 14, none, none, none, none, none, none, none, none, none, none, none, none, none, none]))
def LS28 : List Lay := LS27 ++ [.inl (.int, 6)]
def LS29 : List Lay := LS28.set 11 (.inr (9, [some 12, some 13, some 14, some 15, none, none, none, none, none, none, none, none, none, none, none, none, none]))
def LS30 : List Lay := LS29 ++ [.inl (.int, 6)]
def LS31 : List Lay := LS30.set 11 (.inr (9, [some 12, some 13, some 14, some 15, some 16, none, none, none, none, none, none, none, none, none, none, none, none]))
def LS32 : List Lay := LS31 ++ [.inl (.int, 6)]
def LS33 : List Lay := LS32.set 11 (.inr (9, [some 12, some 13, some 14, some 15, some 16, some 17, none, none, none, none, none, none, none, none, none, none, none]))
def LS34 : List Lay := LS33 ++ [.inl (.int, 5)]
def LS35 : List Lay := LS34.set 11 (.inr (9, [some 12, some 13, some 14, some 15, some 16, some 17, some 18, none, none, none, none, none, none, none, none, none, none]))
def LS36 : List Lay := LS35 ++ [.inl (.int, 4)]
def LS37 : List Lay := LS36.set 11 (.inr (9, [some 12, some 13, some 14, some 15, some 16, some 17, some 18, some 19, none, none, none, none, none, none, none, none, none]))
def LS38 : List Lay := LS37 ++ [.inl (.int, 407)]
def LS39 : List Lay := LS38.set 11 (.inr (9, [some 12, some 13, some 14, some 15, some 16, some 17, some 18, some 19, some 20, none, none, none, none, none, none, none, none]))
def LS40 : List Lay := LS39 ++ [.inr (7, List.replicate 2 none)]
def LS41 : List Lay := LS40 ++ [.inl (.byte, 2000)]
def LS42 : List Lay := LS41.set 21 (.inr (7, [some 22, none]))
def LS43 : List Lay := LS42.set 0 (.inr (11, [some 21, none, none, none, none, none, none, none, none, none, none, none]))
def LS44 : List Lay := LS43 ++ [.inr (6, List.replicate 10 none)]
def LS45 : List Lay := LS44 ++ [.inr (8, List.replicate 4 none)]
def LS46 : List Lay := LS45 ++ [.inl (.int, 401)]
def LS47 : List Lay := LS46.set 24 (.inr (8, [some 25, none, none, none]))
def LS48 : List Lay := LS47 ++ [.inl (.int, 401)]
def LS49 : List Lay := LS48.set 24 (.inr (8, [some 25, some 26, none, none]))
def LS50 : List Lay := LS49 ++ [.inl (.long, 401)]
def LS51 : List Lay := LS50.set 24 (.inr (8, [some 25, some 26, some 27, none]))
def LS52 : List Lay := LS51 ++ [.inl (.long, 23)]
def LS53 : List Lay := LS52.set 24 (.inr (8, [some 25, some 26, some 27, some 28]))
def LS54 : List Lay := LS53.set 23 (.inr (6, [none, some 24, none, none, none, none, none, none, none, none]))
def LS55 : List Lay := LS54 ++ [.inl (.long, 18)]
def LS56 : List Lay := LS55.set 23 (.inr (6, [none, some 24, some 29, none, none, none, none, none, none, none]))
def LS57 : List Lay := LS56 ++ [.inl (.int, 18)]
def LS58 : List Lay := LS57.set 23 (.inr (6, [none, some 24, some 29, some 30, none, none, none, none, none, none]))
def LS59 : List Lay := LS58.set 0 (.inr (11, [some 21, some 23, none, none, none, none, none, none, none, none, none, none]))
def LS60 : List Lay := LS59 ++ [.inr (2, List.replicate 2 none)]
def LS61 : List Lay := LS60 ++ [.inl (.int, 9)]
def LS62 : List Lay := LS61.set 31 (.inr (2, [some 32, none]))
def LS63 : List Lay := LS62 ++ [.inl (.int, 24)]
def LS64 : List Lay := LS63.set 31 (.inr (2, [some 32, some 33]))
def LS65 : List Lay := LS64.set 0 (.inr (11, [some 21, some 23, some 31, none, none, none, none, none, none, none, none, none]))
def LS66 : List Lay := LS65 ++ [.inr (0, List.replicate 2 none)]
def LS67 : List Lay := LS66 ++ [.inr (2, List.replicate 2 none)]
def LS68 : List Lay := LS67 ++ [.inl (.int, 9)]
def LS69 : List Lay := LS68.set 35 (.inr (2, [some 36, none]))
def LS70 : List Lay := LS69 ++ [.inl (.int, 24)]
def LS71 : List Lay := LS70.set 35 (.inr (2, [some 36, some 37]))
def LS72 : List Lay := LS71.set 34 (.inr (0, [some 35, none]))
def LS73 : List Lay := LS72 ++ [.inr (3, List.replicate 11 none)]
def LS74 : List Lay := LS73 ++ [.inl (.int, 6)]
def LS75 : List Lay := LS74.set 38 (.inr (3, [none, none, none, none, none, some 39, none, none, none, none, none]))
def LS76 : List Lay := LS75 ++ [.inl (.int, 6)]
def LS77 : List Lay := LS76.set 38 (.inr (3, [none, none, none, none, none, some 39, some 40, none, none, none, none]))
def LS78 : List Lay := LS77 ++ [.inl (.int, 6)]
def LS79 : List Lay := LS78.set 38 (.inr (3, [none, none, none, none, none, some 39, some 40, some 41, none, none, none]))
def LS80 : List Lay := LS79 ++ [.inl (.int, 6)]
def LS81 : List Lay := LS80.set 38 (.inr (3, [none, none, none, none, none, some 39, some 40, some 41, some 42, none, none]))
def LS82 : List Lay := LS81 ++ [.inl (.int, 5)]
def LS83 : List Lay := LS82.set 38 (.inr (3, [none, none, none, none, none, some 39, some 40, some 41, some 42, some 43, none]))
def LS84 : List Lay := LS83 ++ [.inl (.int, 5)]
def LS85 : List Lay := LS84.set 38 (.inr (3, [none, none, none, none, none, some 39, some 40, some 41, some 42, some 43, some 44]))
def LS86 : List Lay := LS85.set 34 (.inr (0, [some 35, some 38]))
def LS87 : List Lay := LS86.set 0 (.inr (11, [some 21, some 23, some 31, some 34, none, none, none, none, none, none, none, none]))
def LS88 : List Lay := LS87 ++ [.inr (10, List.replicate 2 none)]
def LS89 : List Lay := LS88 ++ [.inl (.int, 7)]
def LS90 : List Lay := LS89.set 45 (.inr (10, [some 46, none]))
def LS91 : List Lay := LS90 ++ [.inl (.int, 49)]
def LS92 : List Lay := LS91.set 45 (.inr (10, [some 46, some 47]))
def LS93 : List Lay := LS92.set 0 (.inr (11, [some 21, some 23, some 31, some 34, some 45, none, none, none, none, none, none, none]))
def LS94 : List Lay := LS93 ++ [.inr (5, List.replicate 7 none)]
def LS95 : List Lay := LS94 ++ [.inl (.int, 6)]
def LS96 : List Lay := LS95.set 48 (.inr (5, [some 49, none, none, none, none, none, none]))
def LS97 : List Lay := LS96 ++ [.inl (.int, 7)]
def LS98 : List Lay := LS97.set 48 (.inr (5, [some 49, none, none, some 50, none, none, none]))
def LS99 : List Lay := LS98 ++ [.inl (.int, 7)]
def LS100 : List Lay := LS99.set 48 (.inr (5, [some 49, none, none, some 50, some 51, none, none]))
def LS101 : List Lay := LS100 ++ [.inl (.int, 6)]
def LS102 : List Lay := LS101.set 48 (.inr (5, [some 49, none, none, some 50, some 51, some 52, none]))
def LS103 : List Lay := LS102.set 0 (.inr (11, [some 21, some 23, some 31, some 34, some 45, some 48, none, none, none, none, none, none]))
def LS104 : List Lay := LS103 ++ [.inr (1, List.replicate 4 none)]
def LS105 : List Lay := LS104 ++ [.inl (.int, 20)]
def LS106 : List Lay := LS105.set 53 (.inr (1, [none, some 54, none, none]))
def LS107 : List Lay := LS106 ++ [.inl (.int, 20)]
def LS108 : List Lay := LS107.set 53 (.inr (1, [none, some 54, some 55, none]))
def LS109 : List Lay := LS108 ++ [.inl (.int, 20)]
def LS110 : List Lay := LS109.set 53 (.inr (1, [none, some 54, some 55, some 56]))
def LS111 : List Lay := LS110.set 0 (.inr (11, [some 21, some 23, some 31, some 34, some 45, some 48, some 53, none, none, none, none, none]))
def LS112 : List Lay := LS111 ++ [.inr (4, List.replicate 5 none)]
def LS113 : List Lay := LS112 ++ [.inl (.int, 1520)]
def LS114 : List Lay := LS113.set 57 (.inr (4, [none, none, some 58, none, none]))
def LS115 : List Lay := LS114 ++ [.inl (.int, 114)]
def LS116 : List Lay := LS115.set 57 (.inr (4, [none, none, some 58, some 59, none]))
def LS117 : List Lay := LS116.set 0 (.inr (11, [some 21, some 23, some 31, some 34, some 45, some 48, some 53, some 57, none, none, none, none]))
def LS118 : List Lay := LS117 ++ [.inr (3, List.replicate 11 none)]
def LS119 : List Lay := LS118 ++ [.inl (.int, 6)]
def LS120 : List Lay := LS119.set 60 (.inr (3, [none, none, none, none, none, some 61, none, none, none, none, none]))
def LS121 : List Lay := LS120 ++ [.inl (.int, 6)]
def LS122 : List Lay := LS121.set 60 (.inr (3, [none, none, none, none, none, some 61, some 62, none, none, none, none]))
def LS123 : List Lay := LS122 ++ [.inl (.int, 6)]
def LS124 : List Lay := LS123.set 60 (.inr (3, [none, none, none, none, none, some 61, some 62, some 63, none, none, none]))
def LS125 : List Lay := LS124 ++ [.inl (.int, 6)]
def LS126 : List Lay := LS125.set 60 (.inr (3, [none, none, none, none, none, some 61, some 62, some 63, some 64, none, none]))
def LS127 : List Lay := LS126 ++ [.inl (.int, 5)]
def LS128 : List Lay := LS127.set 60 (.inr (3, [none, none, none, none, none, some 61, some 62, some 63, some 64, some 65, none]))
def LS129 : List Lay := LS128 ++ [.inl (.int, 5)]
def LS130 : List Lay := LS129.set 60 (.inr (3, [none, none, none, none, none, some 61, some 62, some 63, some 64, some 65, some 66]))
def LS131 : List Lay := LS130.set 0 (.inr (11, [some 21, some 23, some 31, some 34, some 45, some 48, some 53, some 57, some 60, none, none, none]))
def LS132 : List Lay := LS131 ++ [.inr (12, List.replicate 72 none)]
def LS133 : List Lay := LS132 ++ [.inl (.byte, 2000)]
def LS134 : List Lay := LS133.set 67 (.inr (12, [none, some 68, none, none, none, none, none, none, none, none, none, none, none, none, none, none, none, none, none, none, none, none, none, none, none, none, none, none, none, none, none, none, none, none, none, none, none, none, none, none, none, none, none, none, none, none, none, none, none, none, none, none, none, none, none, none, none, none, none, none, none, none, none, none, none, none, none, none, none, none, none, none]))
def LS135 : List Lay := LS134 ++ [.inl (.byte, 2000)]
def LS136 : List Lay := LS135.set 67 (.inr (12, [none, some 68, none, some 69, none, none, none, none, none, none, none, none, none, none, none, none, none, none, none, none, none, none, none, none, none, none, none, none, none, none, none, none, none, none, none, none, none, none, none, none, none, none, none, none, none, none, none, none, none, none, none, none, none, none, none, none, none, none, none, none, none, none, none, none, none, none, none, none, none, none, none, none]))
def LS137 : List Lay := LS136 ++ [.inl (.int, 403)]
def LS138 : List Lay := LS137.set 67 (.inr (12, [none, some 68, none, some 69, none, some 70, none, none, none, none, none, none, none, none, none, none, none, none, none, none, none, none, none, none, none, none, none, none, none, none, none, none, none, none, none, none, none, none, none, none, none, none, none, none, none, none, none, none, none, none, none, none, none, none, none, none, none, none, none, none, none, none, none, none, none, none, none, none, none, none, none, none]))
def LS139 : List Lay := LS138 ++ [.inl (.int, 403)]
def LS140 : List Lay := LS139.set 67 (.inr (12, [none, some 68, none, some 69, none, some 70, some 71, none, none, none, none, none, none, none, none, none, none, none, none, none, none, none, none, none, none, none, none, none, none, none, none, none, none, none, none, none, none, none, none, none, none, none, none, none, none, none, none, none, none, none, none, none, none, none, none, none, none, none, none, none, none, none, none, none, none, none, none, none, none, none, none, none]))
def LS141 : List Lay := LS140 ++ [.inl (.int, 403)]
def LS142 : List Lay := LS141.set 67 (.inr (12, [none, some 68, none, some 69, none, some 70, some 71, some 72, none, none, none, none, none, none, none, none, none, none, none, none, none, none, none, none, none, none, none, none, none, none, none, none, none, none, none, none, none, none, none, none, none, none, none, none, none, none, none, none, none, none, none, none, none, none, none, none, none, none, none, none, none, none, none, none, none, none, none, none, none, none, none, none]))
def LS143 : List Lay := LS142 ++ [.inl (.long, 403)]
def LS144 : List Lay := LS143.set 67 (.inr (12, [none, some 68, none, some 69, none, some 70, some 71, some 72, some 73, none, none, none, none, none, none, none, none, none, none, none, none, none, none, none, none, none, none, none, none, none, none, none, none, none, none, none, none, none, none, none, none, none, none, none, none, none, none, none, none, none, none, none, none, none, none, none, none, none, none, none, none, none, none, none, none, none, none, none, none, none, none, none]))
def LS145 : List Lay := LS144 ++ [.inl (.long, 23)]
def LS146 : List Lay := LS145.set 67 (.inr (12, [none, some 68, none, some 69, none, some 70, some 71, some 72, some 73, some 74, none, none, none, none, none, none, none, none, none, none, none, none, none, none, none, none, none, none, none, none, none, none, none, none, none, none, none, none, none, none, none, none, none, none, none, none, none, none, none, none, none, none, none, none, none, none, none, none, none, none, none, none, none, none, none, none, none, none, none, none, none, none]))
def LS147 : List Lay := LS146 ++ [.inl (.long, 18)]
def LS148 : List Lay := LS147.set 67 (.inr (12, [none, some 68, none, some 69, none, some 70, some 71, some 72, some 73, some 74, none, none, none, none, none, none, none, none, none, none, none, some 75, none, none, none, none, none, none, none, none, none, none, none, none, none, none, none, none, none, none, none, none, none, none, none, none, none, none, none, none, none, none, none, none, none, none, none, none, none, none, none, none, none, none, none, none, none, none, none, none, none, none]))
def LS149 : List Lay := LS148 ++ [.inl (.int, 18)]
def LS150 : List Lay := LS149.set 67 (.inr (12, [none, some 68, none, some 69, none, some 70, some 71, some 72, some 73, some 74, none, none, none, none, none, none, none, none, none, none, none, some 75, some 76, none, none, none, none, none, none, none, none, none, none, none, none, none, none, none, none, none, none, none, none, none, none, none, none, none, none, none, none, none, none, none, none, none, none, none, none, none, none, none, none, none, none, none, none, none, none, none, none, none]))
def LS151 : List Lay := LS150 ++ [.inl (.int, 2)]
def LS152 : List Lay := LS151.set 67 (.inr (12, [none, some 68, none, some 69, none, some 70, some 71, some 72, some 73, some 74, none, none, none, none, none, none, none, none, none, none, none, some 75, some 76, some 77, none, none, none, none, none, none, none, none, none, none, none, none, none, none, none, none, none, none, none, none, none, none, none, none, none, none, none, none, none, none, none, none, none, none, none, none, none, none, none, none, none, none, none, none, none, none, none, none]))
def LS153 : List Lay := LS152 ++ [.inl (.int, 2)]
def LS154 : List Lay := LS153.set 67 (.inr (12, [none, some 68, none, some 69, none, some 70, some 71, some 72, some 73, some 74, none, none, none, none, none, none, none, none, none, none, none, some 75, some 76, some 77, some 78, none, none, none, none, none, none, none, none, none, none, none, none, none, none, none, none, none, none, none, none, none, none, none, none, none, none, none, none, none, none, none, none, none, none, none, none, none, none, none, none, none, none, none, none, none, none, none]))
def LS155 : List Lay := LS154 ++ [.inl (.int, 20)]
def LS156 : List Lay := LS155.set 67 (.inr (12, [none, some 68, none, some 69, none, some 70, some 71, some 72, some 73, some 74, none, none, none, none, none, none, none, none, none, none, none, some 75, some 76, some 77, some 78, some 79, none, none, none, none, none, none, none, none, none, none, none, none, none, none, none, none, none, none, none, none, none, none, none, none, none, none, none, none, none, none, none, none, none, none, none, none, none, none, none, none, none, none, none, none, none, none]))
def LS157 : List Lay := LS156 ++ [.inl (.int, 20)]
def LS158 : List Lay := LS157.set 67 (.inr (12, [none, some 68, none, some 69, none, some 70, some 71, some 72, some 73, some 74, none, none, none, none, none, none, none, none, none, none, none, some 75, some 76, some 77, some 78, some 79, some 80, none, none, none, none, none, none, none, none, none, none, none, none, none, none, none, none, none, none, none, none, none, none, none, none, none, none, none, none, none, none, none, none, none, none, none, none, none, none, none, none, none, none, none, none, none]))
def LS159 : List Lay := LS158 ++ [.inl (.int, 20)]
def LS160 : List Lay := LS159.set 67 (.inr (12, [none, some 68, none, some 69, none, some 70, some 71, some 72, some 73, some 74, none, none, none, none, none, none, none, none, none, none, none, some 75, some 76, some 77, some 78, some 79, some 80, some 81, none, none, none, none, none, none, none, none, none, none, none, none, none, none, none, none, none, none, none, none, none, none, none, none, none, none, none, none, none, none, none, none, none, none, none, none, none, none, none, none, none, none, none, none]))
def LS161 : List Lay := LS160 ++ [.inl (.int, 2)]
def LS162 : List Lay := LS161.set 67 (.inr (12, [none, some 68, none, some 69, none, some 70, some 71, some 72, some 73, some 74, none, none, none, none, none, none, none, none, none, none, none, some 75, some 76, some 77, some 78, some 79, some 80, some 81, some 82, none, none, none, none, none, none, none, none, none, none, none, none, none, none, none, none, none, none, none, none, none, none, none, none, none, none, none, none, none, none, none, none, none, none, none, none, none, none, none, none, none, none, none]))
def LS163 : List Lay := LS162 ++ [.inl (.int, 12)]
def LS164 : List Lay := LS163.set 67 (.inr (12, [none, some 68, none, some 69, none, some 70, some 71, some 72, some 73, some 74, none, none, none, none, none, none, none, none, none, none, none, some 75, some 76, some 77, some 78, some 79, some 80, some 81, some 82, some 83, none, none, none, none, none, none, none, none, none, none, none, none, none, none, none, none, none, none, none, none, none, none, none, none, none, none, none, none, none, none, none, none, none, none, none, none, none, none, none, none, none, none]))
def LS165 : List Lay := LS164 ++ [.inl (.int, 12)]
def LS166 : List Lay := LS165.set 67 (.inr (12, [none, some 68, none, some 69, none, some 70, some 71, some 72, some 73, some 74, none, none, none, none, none, none, none, none, none, none, none, some 75, some 76, some 77, some 78, some 79, some 80, some 81, some 82, some 83, some 84, none, none, none, none, none, none, none, none, none, none, none, none, none, none, none, none, none, none, none, none, none, none, none, none, none, none, none, none, none, none, none, none, none, none, none, none, none, none, none, none, none]))
def LS167 : List Lay := LS166 ++ [.inl (.int, 12)]
def LS168 : List Lay := LS167.set 67 (.inr (12, [none, some 68, none, some 69, none, some 70, some 71, some 72, some 73, some 74, none, none, none, none, none, none, none, none, none, none, none, some 75, some 76, some 77, some 78, some 79, some 80, some 81, some 82, some 83, some 84, some 85, none, none, none, none, none, none, none, none, none, none, none, none, none, none, none, none, none, none, none, none, none, none, none, none, none, none, none, none, none, none, none, none, none, none, none, none, none, none, none, none]))
def LS169 : List Lay := LS168 ++ [.inl (.int, 2)]
def LS170 : List Lay := LS169.set 67 (.inr (12, [none, some 68, none, some 69, none, some 70, some 71, some 72, some 73, some 74, none, none, none, none, none, none, none, none, none, none, none, some 75, some 76, some 77, some 78, some 79, some 80, some 81, some 82, some 83, some 84, some 85, some 86, none, none, none, none, none, none, none, none, none, none, none, none, none, none, none, none, none, none, none, none, none, none, none, none, none, none, none, none, none, none, none, none, none, none, none, none, none, none, none]))
def LS171 : List Lay := LS170 ++ [.inl (.int, 10)]
def LS172 : List Lay := LS171.set 67 (.inr (12, [none, some 68, none, some 69, none, some 70, some 71, some 72, some 73, some 74, none, none, none, none, none, none, none, none, none, none, none, some 75, some 76, some 77, some 78, some 79, some 80, some 81, some 82, some 83, some 84, some 85, some 86, some 87, none, none, none, none, none, none, none, none, none, none, none, none, none, none, none, none, none, none, none, none, none, none, none, none, none, none, none, none, none, none, none, none, none, none, none, none, none, none]))
def LS173 : List Lay := LS172 ++ [.inl (.int, 2)]
def LS174 : List Lay := LS173.set 67 (.inr (12, [none, some 68, none, some 69, none, some 70, some 71, some 72, some 73, some 74, none, none, none, none, none, none, none, none, none, none, none, some 75, some 76, some 77, some 78, some 79, some 80, some 81, some 82, some 83, some 84, some 85, some 86, some 87, some 88, none, none, none, none, none, none, none, none, none, none, none, none, none, none, none, none, none, none, none, none, none, none, none, none, none, none, none, none, none, none, none, none, none, none, none, none, none]))
def LS175 : List Lay := LS174 ++ [.inl (.int, 2)]
def LS176 : List Lay := LS175.set 67 (.inr (12, [none, some 68, none, some 69, none, some 70, some 71, some 72, some 73, some 74, none, none, none, none, none, none, none, none, none, none, none, some 75, some 76, some 77, some 78, some 79, some 80, some 81, some 82, some 83, some 84, some 85, some 86, some 87, some 88, some 89, none, none, none, none, none, none, none, none, none, none, none, none, none, none, none, none, none, none, none, none, none, none, none, none, none, none, none, none, none, none, none, none, none, none, none, none]))
def LS177 : List Lay := LS176 ++ [.inl (.int, 2)]
def LS178 : List Lay := LS177.set 67 (.inr (12, [none, some 68, none, some 69, none, some 70, some 71, some 72, some 73, some 74, none, none, none, none, none, none, none, none, none, none, none, some 75, some 76, some 77, some 78, some 79, some 80, some 81, some 82, some 83, some 84, some 85, some 86, some 87, some 88, some 89, some 90, none, none, none, none, none, none, none, none, none, none, none, none, none, none, none, none, none, none, none, none, none, none, none, none, none, none, none, none, none, none, none, none, none, none, none]))
def LS179 : List Lay := LS178 ++ [.inl (.int, 8)]
def LS180 : List Lay := LS179.set 67 (.inr (12, [none, some 68, none, some 69, none, some 70, some 71, some 72, some 73, some 74, none, none, none, none, none, none, none, none, none, none, none, some 75, some 76, some 77, some 78, some 79, some 80, some 81, some 82, some 83, some 84, some 85, some 86, some 87, some 88, some 89, some 90, some 91, none, none, none, none, none, none, none, none, none, none, none, none, none, none, none, none, none, none, none, none, none, none, none, none, none, none, none, none, none, none, none, none, none, none]))
def LS181 : List Lay := LS180 ++ [.inl (.int, 8)]
def LS182 : List Lay := LS181.set 67 (.inr (12, [none, some 68, none, some 69, none, some 70, some 71, some 72, some 73, some 74, none, none, none, none, none, none, none, none, none, none, none, some 75, some 76, some 77, some 78, some 79, some 80, some 81, some 82, some 83, some 84, some 85, some 86, some 87, some 88, some 89, some 90, some 91, some 92, none, none, none, none, none, none, none, none, none, none, none, none, none, none, none, none, none, none, none, none, none, none, none, none, none, none, none, none, none, none, none, none, none]))
def LS183 : List Lay := LS182 ++ [.inl (.boolean, 260)]
def LS184 : List Lay := LS183.set 67 (.inr (12, [none, some 68, none, some 69, none, some 70, some 71, some 72, some 73, some 74, none, none, none, none, none, none, none, none, none, none, none, some 75, some 76, some 77, some 78, some 79, some 80, some 81, some 82, some 83, some 84, some 85, some 86, some 87, some 88, some 89, some 90, some 91, some 92, none, some 93, none, none, none, none, none, none, none, none, none, none, none, none, none, none, none, none, none, none, none, none, none, none, none, none, none, none, none, none, none, none, none]))
def LS185 : List Lay := LS184 ++ [.inl (.int, 260)]
def LS186 : List Lay := LS185.set 67 (.inr (12, [none, some 68, none, some 69, none, some 70, some 71, some 72, some 73, some 74, none, none, none, none, none, none, none, none, none, none, none, some 75, some 76, some 77, some 78, some 79, some 80, some 81, some 82, some 83, some 84, some 85, some 86, some 87, some 88, some 89, some 90, some 91, some 92, none, some 93, some 94, none, none, none, none, none, none, none, none, none, none, none, none, none, none, none, none, none, none, none, none, none, none, none, none, none, none, none, none, none, none]))
def LS187 : List Lay := LS186 ++ [.inl (.int, 260)]
def LS188 : List Lay := LS187.set 67 (.inr (12, [none, some 68, none, some 69, none, some 70, some 71, some 72, some 73, some 74, none, none, none, none, none, none, none, none, none, none, none, some 75, some 76, some 77, some 78, some 79, some 80, some 81, some 82, some 83, some 84, some 85, some 86, some 87, some 88, some 89, some 90, some 91, some 92, none, some 93, some 94, some 95, none, none, none, none, none, none, none, none, none, none, none, none, none, none, none, none, none, none, none, none, none, none, none, none, none, none, none, none, none]))
def LS189 : List Lay := LS188 ++ [.inl (.int, 260)]
def LS190 : List Lay := LS189.set 67 (.inr (12, [none, some 68, none, some 69, none, some 70, some 71, some 72, some 73, some 74, none, none, none, none, none, none, none, none, none, none, none, some 75, some 76, some 77, some 78, some 79, some 80, some 81, some 82, some 83, some 84, some 85, some 86, some 87, some 88, some 89, some 90, some 91, some 92, none, some 93, some 94, some 95, some 96, none, none, none, none, none, none, none, none, none, none, none, none, none, none, none, none, none, none, none, none, none, none, none, none, none, none, none, none]))
def LS191 : List Lay := LS190 ++ [.inl (.int, 260)]
def LS192 : List Lay := LS191.set 67 (.inr (12, [none, some 68, none, some 69, none, some 70, some 71, some 72, some 73, some 74, none, none, none, none, none, none, none, none, none, none, none, some 75, some 76, some 77, some 78, some 79, some 80, some 81, some 82, some 83, some 84, some 85, some 86, some 87, some 88, some 89, some 90, some 91, some 92, none, some 93, some 94, some 95, some 96, some 97, none, none, none, none, none, none, none, none, none, none, none, none, none, none, none, none, none, none, none, none, none, none, none, none, none, none, none]))
def LS193 : List Lay := LS192 ++ [.inl (.int, 840)]
def LS194 : List Lay := LS193.set 67 (.inr (12, [none, some 68, none, some 69, none, some 70, some 71, some 72, some 73, some 74, none, none, none, none, none, none, none, none, none, none, none, some 75, some 76, some 77, some 78, some 79, some 80, some 81, some 82, some 83, some 84, some 85, some 86, some 87, some 88, some 89, some 90, some 91, some 92, none, some 93, some 94, some 95, some 96, some 97, none, some 98, none, none, none, none, none, none, none, none, none, none, none, none, none, none, none, none, none, none, none, none, none, none, none, none, none]))
def LS195 : List Lay := LS194 ++ [.inl (.int, 840)]
def LS196 : List Lay := LS195.set 67 (.inr (12, [none, some 68, none, some 69, none, some 70, some 71, some 72, some 73, some 74, none, none, none, none, none, none, none, none, none, none, none, some 75, some 76, some 77, some 78, some 79, some 80, some 81, some 82, some 83, some 84, some 85, some 86, some 87, some 88, some 89, some 90, some 91, some 92, none, some 93, some 94, some 95, some 96, some 97, none, some 98, some 99, none, none, none, none, none, none, none, none, none, none, none, none, none, none, none, none, none, none, none, none, none, none, none, none]))
def LS197 : List Lay := LS196 ++ [.inl (.int, 64)]
def LS198 : List Lay := LS197.set 67 (.inr (12, [none, some 68, none, some 69, none, some 70, some 71, some 72, some 73, some 74, none, none, none, none, none, none, none, none, none, none, none, some 75, some 76, some 77, some 78, some 79, some 80, some 81, some 82, some 83, some 84, some 85, some 86, some 87, some 88, some 89, some 90, some 91, some 92, none, some 93, some 94, some 95, some 96, some 97, none, some 98, some 99, some 100, none, none, none, none, none, none, none, none, none, none, none, none, none, none, none, none, none, none, none, none, none, none, none]))
def LS199 : List Lay := LS198 ++ [.inl (.int, 9)]
def LS200 : List Lay := LS199.set 67 (.inr (12, [none, some 68, none, some 69, none, some 70, some 71, some 72, some 73, some 74, none, none, none, none, none, none, none, none, none, none, none, some 75, some 76, some 77, some 78, some 79, some 80, some 81, some 82, some 83, some 84, some 85, some 86, some 87, some 88, some 89, some 90, some 91, some 92, none, some 93, some 94, some 95, some 96, some 97, none, some 98, some 99, some 100, none, some 101, none, none, none, none, none, none, none, none, none, none, none, none, none, none, none, none, none, none, none, none, none]))
def LS201 : List Lay := LS200 ++ [.inl (.int, 400)]
def LS202 : List Lay := LS201.set 67 (.inr (12, [none, some 68, none, some 69, none, some 70, some 71, some 72, some 73, some 74, none, none, none, none, none, none, none, none, none, none, none, some 75, some 76, some 77, some 78, some 79, some 80, some 81, some 82, some 83, some 84, some 85, some 86, some 87, some 88, some 89, some 90, some 91, some 92, none, some 93, some 94, some 95, some 96, some 97, none, some 98, some 99, some 100, none, some 101, some 102, none, none, none, none, none, none, none, none, none, none, none, none, none, none, none, none, none, none, none, none]))
def LS203 : List Lay := LS202 ++ [.inl (.int, 48)]
def LS204 : List Lay := LS203.set 67 (.inr (12, [none, some 68, none, some 69, none, some 70, some 71, some 72, some 73, some 74, none, none, none, none, none, none, none, none, none, none, none, some 75, some 76, some 77, some 78, some 79, some 80, some 81, some 82, some 83, some 84, some 85, some 86, some 87, some 88, some 89, some 90, some 91, some 92, none, some 93, some 94, some 95, some 96, some 97, none, some 98, some 99, some 100, none, some 101, some 102, none, some 103, none, none, none, none, none, none, none, none, none, none, none, none, none, none, none, none, none, none]))
def LS205 : List Lay := LS204 ++ [.inl (.int, 48)]
def LS206 : List Lay := LS205.set 67 (.inr (12, [none, some 68, none, some 69, none, some 70, some 71, some 72, some 73, some 74, none, none, none, none, none, none, none, none, none, none, none, some 75, some 76, some 77, some 78, some 79, some 80, some 81, some 82, some 83, some 84, some 85, some 86, some 87, some 88, some 89, some 90, some 91, some 92, none, some 93, some 94, some 95, some 96, some 97, none, some 98, some 99, some 100, none, some 101, some 102, none, some 103, some 104, none, none, none, none, none, none, none, none, none, none, none, none, none, none, none, none, none]))
def LS207 : List Lay := LS206 ++ [.inl (.int, 6)]
def LS208 : List Lay := LS207.set 67 (.inr (12, [none, some 68, none, some 69, none, some 70, some 71, some 72, some 73, some 74, none, none, none, none, none, none, none, none, none, none, none, some 75, some 76, some 77, some 78, some 79, some 80, some 81, some 82, some 83, some 84, some 85, some 86, some 87, some 88, some 89, some 90, some 91, some 92, none, some 93, some 94, some 95, some 96, some 97, none, some 98, some 99, some 100, none, some 101, some 102, none, some 103, some 104, none, none, some 105, none, none, none, none, none, none, none, none, none, none, none, none, none, none]))
def LS209 : List Lay := LS208 ++ [.inl (.boolean, 6)]
def LS210 : List Lay := LS209.set 67 (.inr (12, [none, some 68, none, some 69, none, some 70, some 71, some 72, some 73, some 74, none, none, none, none, none, none, none, none, none, none, none, some 75, some 76, some 77, some 78, some 79, some 80, some 81, some 82, some 83, some 84, some 85, some 86, some 87, some 88, some 89, some 90, some 91, some 92, none, some 93, some 94, some 95, some 96, some 97, none, some 98, some 99, some 100, none, some 101, some 102, none, some 103, some 104, none, none, some 105, some 106, none, none, none, none, none, none, none, none, none, none, none, none, none]))
def LS211 : List Lay := LS210 ++ [.inl (.int, 12)]
def LS212 : List Lay := LS211.set 67 (.inr (12, [none, some 68, none, some 69, none, some 70, some 71, some 72, some 73, some 74, none, none, none, none, none, none, none, none, none, none, none, some 75, some 76, some 77, some 78, some 79, some 80, some 81, some 82, some 83, some 84, some 85, some 86, some 87, some 88, some 89, some 90, some 91, some 92, none, some 93, some 94, some 95, some 96, some 97, none, some 98, some 99, some 100, none, some 101, some 102, none, some 103, some 104, none, none, some 105, some 106, some 107, none, none, none, none, none, none, none, none, none, none, none, none]))
def LS213 : List Lay := LS212 ++ [.inl (.int, 1920)]
def LS214 : List Lay := LS213.set 67 (.inr (12, [none, some 68, none, some 69, none, some 70, some 71, some 72, some 73, some 74, none, none, none, none, none, none, none, none, none, none, none, some 75, some 76, some 77, some 78, some 79, some 80, some 81, some 82, some 83, some 84, some 85, some 86, some 87, some 88, some 89, some 90, some 91, some 92, none, some 93, some 94, some 95, some 96, some 97, none, some 98, some 99, some 100, none, some 101, some 102, none, some 103, some 104, none, none, some 105, some 106, some 107, none, some 108, none, none, none, none, none, none, none, none, none, none]))
def LS215 : List Lay := LS214 ++ [.inl (.int, 6)]
def LS216 : List Lay := LS215.set 67 (.inr (12, [none, some 68, none, some 69, none, some 70, some 71, some 72, some 73, some 74, none, none, none, none, none, none, none, none, none, none, none, some 75, some 76, some 77, some 78, some 79, some 80, some 81, some 82, some 83, some 84, some 85, some 86, some 87, some 88, some 89, some 90, some 91, some 92, none, some 93, some 94, some 95, some 96, some 97, none, some 98, some 99, some 100, none, some 101, some 102, none, some 103, some 104, none, none, some 105, some 106, some 107, none, some 108, some 109, none, none, none, none, none, none, none, none, none]))
def LS217 : List Lay := LS216 ++ [.inl (.int, 7)]
def LS218 : List Lay := LS217.set 67 (.inr (12, [none, some 68, none, some 69, none, some 70, some 71, some 72, some 73, some 74, none, none, none, none, none, none, none, none, none, none, none, some 75, some 76, some 77, some 78, some 79, some 80, some 81, some 82, some 83, some 84, some 85, some 86, some 87, some 88, some 89, some 90, some 91, some 92, none, some 93, some 94, some 95, some 96, some 97, none, some 98, some 99, some 100, none, some 101, some 102, none, some 103, some 104, none, none, some 105, some 106, some 107, none, some 108, some 109, some 110, none, none, none, none, none, none, none, none]))
def LS219 : List Lay := LS218 ++ [.inl (.int, 896)]
def LS220 : List Lay := LS219.set 67 (.inr (12, [none, some 68, none, some 69, none, some 70, some 71, some 72, some 73, some 74, none, none, none, none, none, none, none, none, none, none, none, some 75, some 76, some 77, some 78, some 79, some 80, some 81, some 82, some 83, some 84, some 85, some 86, some 87, some 88, some 89, some 90, some 91, some 92, none, some 93, some 94, some 95, some 96, some 97, none, some 98, some 99, some 100, none, some 101, some 102, none, some 103, some 104, none, none, some 105, some 106, some 107, none, some 108, some 109, some 110, some 111, none, none, none, none, none, none, none]))
def LS221 : List Lay := LS220 ++ [.inl (.int, 49)]
def LS222 : List Lay := LS221.set 67 (.inr (12, [none, some 68, none, some 69, none, some 70, some 71, some 72, some 73, some 74, none, none, none, none, none, none, none, none, none, none, none, some 75, some 76, some 77, some 78, some 79, some 80, some 81, some 82, some 83, some 84, some 85, some 86, some 87, some 88, some 89, some 90, some 91, some 92, none, some 93, some 94, some 95, some 96, some 97, none, some 98, some 99, some 100, none, some 101, some 102, none, some 103, some 104, none, none, some 105, some 106, some 107, none, some 108, some 109, some 110, some 111, some 112, none, none, none, none, none, none]))
def LS223 : List Lay := LS222 ++ [.inl (.int, 20)]
def LS224 : List Lay := LS223.set 67 (.inr (12, [none, some 68, none, some 69, none, some 70, some 71, some 72, some 73, some 74, none, none, none, none, none, none, none, none, none, none, none, some 75, some 76, some 77, some 78, some 79, some 80, some 81, some 82, some 83, some 84, some 85, some 86, some 87, some 88, some 89, some 90, some 91, some 92, none, some 93, some 94, some 95, some 96, some 97, none, some 98, some 99, some 100, none, some 101, some 102, none, some 103, some 104, none, none, some 105, some 106, some 107, none, some 108, some 109, some 110, some 111, some 112, none, some 113, none, none, none, none]))
def LS225 : List Lay := LS224 ++ [.inl (.int, 20)]
def LS226 : List Lay := LS225.set 67 (.inr (12, [none, some 68, none, some 69, none, some 70, some 71, some 72, some 73, some 74, none, none, none, none, none, none, none, none, none, none, none, some 75, some 76, some 77, some 78, some 79, some 80, some 81, some 82, some 83, some 84, some 85, some 86, some 87, some 88, some 89, some 90, some 91, some 92, none, some 93, some 94, some 95, some 96, some 97, none, some 98, some 99, some 100, none, some 101, some 102, none, some 103, some 104, none, none, some 105, some 106, some 107, none, some 108, some 109, some 110, some 111, some 112, none, some 113, some 114, none, none, none]))
def LS227 : List Lay := LS226 ++ [.inl (.boolean, 20)]
def LS228 : List Lay := LS227.set 67 (.inr (12, [none, some 68, none, some 69, none, some 70, some 71, some 72, some 73, some 74, none, none, none, none, none, none, none, none, none, none, none, some 75, some 76, some 77, some 78, some 79, some 80, some 81, some 82, some 83, some 84, some 85, some 86, some 87, some 88, some 89, some 90, some 91, some 92, none, some 93, some 94, some 95, some 96, some 97, none, some 98, some 99, some 100, none, some 101, some 102, none, some 103, some 104, none, none, some 105, some 106, some 107, none, some 108, some 109, some 110, some 111, some 112, none, some 113, some 114, some 115, none, none]))
def LS229 : List Lay := LS228 ++ [.inl (.boolean, 3)]
def LS230 : List Lay := LS229.set 67 (.inr (12, [none, some 68, none, some 69, none, some 70, some 71, some 72, some 73, some 74, none, none, none, none, none, none, none, none, none, none, none, some 75, some 76, some 77, some 78, some 79, some 80, some 81, some 82, some 83, some 84, some 85, some 86, some 87, some 88, some 89, some 90, some 91, some 92, none, some 93, some 94, some 95, some 96, some 97, none, some 98, some 99, some 100, none, some 101, some 102, none, some 103, some 104, none, none, some 105, some 106, some 107, none, some 108, some 109, some 110, some 111, some 112, none, some 113, some 114, some 115, some 116, none]))
def LS231 : List Lay := LS230 ++ [.inl (.int, 144)]
def LS232 : List Lay := LS231.set 67 (.inr (12, [none, some 68, none, some 69, none, some 70, some 71, some 72, some 73, some 74, none, none, none, none, none, none, none, none, none, none, none, some 75, some 76, some 77, some 78, some 79, some 80, some 81, some 82, some 83, some 84, some 85, some 86, some 87, some 88, some 89, some 90, some 91, some 92, none, some 93, some 94, some 95, some 96, some 97, none, some 98, some 99, some 100, none, some 101, some 102, none, some 103, some 104, none, none, some 105, some 106, some 107, none, some 108, some 109, some 110, some 111, some 112, none, some 113, some 114, some 115, some 116, some 117]))
theorem hA20_1 : ∀ (id : Nat) (y : Lay), LAY[id]? = some y → 1 ≤ id ∧ id < 11 → LS20[id]? = some y := by
  intro id y h hr
  rw [← h]
  exact agree_of (lo := 1) (hi := 11) (by decide +kernel) hr
def cf_1 (M : Mem) : Option (Mem) :=
  lt (nM M 2) fun M1 =>
  lt (nM M1 3) fun M2 =>
  lt (nM M2 4) fun M3 =>
  lt (nM M3 5) fun M4 =>
  lt (nM M4 6) fun M5 =>
  lt (nM M5 7) fun M6 =>
  lt (nM M6 8) fun M7 =>
  lt (nM M7 9) fun M8 =>
  lt (nM M8 10) fun M9 =>
  (f_X9_clear 1 M9).bind fun M10 =>
  some M10
set_option maxHeartbeats 4000000 in
set_option maxRecDepth 20000 in
theorem ct_1 {g : GG} {d : Nat} (hd : 3 ≤ d) {M M' : Mem} (hf : cf_1 M = some M') : ExM g d iX9_init [.ref 1] LS2 M (none, LS20, M') := by
  refine ExM.of pnX9 (by show LS2.length ≤ LS20.length; decide +kernel) (by show szL LS2 ≤ szL LS20; decide +kernel) (Nat.le_of_ble_eq_true rfl) ?_
  intro P hP
  have hP : IsW g iX9_init d LS20.length (szL LS20) (some (none, LS20, M')) P := hP
  change P 0 [some (.ref 1)] [] LS2 M
  rw [cf_1] at hf
  refine x_aload_n hP dX9_init_0 rfl ?_
  refine x_objInit hP lX9_5 (Nat.le_of_ble_eq_true rfl) (by omega) dX9_init_1 ?_
  refine x_aload_n hP dX9_init_4 rfl ?_
  refine x_bipush hP dX9_init_5 (v := 10) rfl ?_
  obtain ⟨M1, hM1, hf⟩ := b_lt hf
  refine z_newa hP (L2 := LS3) (id := 2) (ty := .int) (N := 10) (t0 := 0) rfl rfl (by decide) ac_int (by decide) (by decide) (by decide) (by decide +kernel) hM1 dX9_init_7 rfl rfl ?_
  refine z_putF hP (L2 := LS4) fX9_11 (Or.inr ⟨_, rfl⟩) rfl rfl (rfl : LS3[1]? = some (.inr (9, [none, none, none, none, none, none, none, none, none, none, none, none, none, none, none, none, none]))) (by decide) rfl dX9_init_9 ?_
  refine x_aload_n hP dX9_init_12 rfl ?_
  refine x_bipush hP dX9_init_13 (v := 10) rfl ?_
  obtain ⟨M2, hM2, hf⟩ := b_lt hf
  refine z_newa hP (L2 := LS5) (id := 3) (ty := .int) (N := 10) (t0 := 0) rfl rfl (by decide) ac_int (by decide) (by decide) (by decide) (by decide +kernel) hM2 dX9_init_15 rfl rfl ?_
  refine z_putF hP (L2 := LS6) fX9_17 (Or.inr ⟨_, rfl⟩) rfl rfl (rfl : LS5[1]? = some (.inr (9, [some 2, none, none, none, none, none, none, none, none, none, none, none, none, none, none, none, none]))) (by decide) rfl dX9_init_17 ?_
  refine x_aload_n hP dX9_init_20 rfl ?_
  refine x_bipush hP dX9_init_21 (v := 10) rfl ?_
  obtain ⟨M3, hM3, hf⟩ := b_lt hf
  refine z_newa hP (L2 := LS7) (id := 4) (ty := .int) (N := 10) (t0 := 0) rfl rfl (by decide) ac_int (by decide) (by decide) (by decide) (by decide +kernel) hM3 dX9_init_23 rfl rfl ?_
  refine z_putF hP (L2 := LS8) fX9_20 (Or.inr ⟨_, rfl⟩) rfl rfl (rfl : LS7[1]? = some (.inr (9, [some 2, some 3, none, none, none, none, none, none, none, none, none, none, none, none, none, none, none]))) (by decide) rfl dX9_init_25 ?_
  refine x_aload_n hP dX9_init_28 rfl ?_
  refine x_bipush hP dX9_init_29 (v := 6) rfl ?_
  obtain ⟨M4, hM4, hf⟩ := b_lt hf
  refine z_newa hP (L2 := LS9) (id := 5) (ty := .int) (N := 6) (t0 := 0) rfl rfl (by decide) ac_int (by decide) (by decide) (by decide) (by decide +kernel) hM4 dX9_init_31 rfl rfl ?_
  refine z_putF hP (L2 := LS10) fX9_23 (Or.inr ⟨_, rfl⟩) rfl rfl (rfl : LS9[1]? = some (.inr (9, [some 2, some 3, some 4, none, none, none, none, none, none, none, none, none, none, none, none, none, none]))) (by decide) rfl dX9_init_33 ?_
  refine x_aload_n hP dX9_init_36 rfl ?_
  refine x_bipush hP dX9_init_37 (v := 6) rfl ?_
  obtain ⟨M5, hM5, hf⟩ := b_lt hf
  refine z_newa hP (L2 := LS11) (id := 6) (ty := .int) (N := 6) (t0 := 0) rfl rfl (by decide) ac_int (by decide) (by decide) (by decide) (by decide +kernel) hM5 dX9_init_39 rfl rfl ?_
  refine z_putF hP (L2 := LS12) fX9_26 (Or.inr ⟨_, rfl⟩) rfl rfl (rfl : LS11[1]? = some (.inr (9, [some 2, some 3, some 4, some 5, none, none, none, none, none, none, none, none, none, none, none, none, none]))) (by decide) rfl dX9_init_41 ?_
  refine x_aload_n hP dX9_init_44 rfl ?_
  refine x_bipush hP dX9_init_45 (v := 6) rfl ?_
  obtain ⟨M6, hM6, hf⟩ := b_lt hf
  refine z_newa hP (L2 := LS13) (id := 7) (ty := .int) (N := 6) (t0 := 0) rfl rfl (by decide) ac_int (by decide) (by decide) (by decide) (by decide +kernel) hM6 dX9_init_47 rfl rfl ?_
  refine z_putF hP (L2 := LS14) fX9_29 (Or.inr ⟨_, rfl⟩) rfl rfl (rfl : LS13[1]? = some (.inr (9, [some 2, some 3, some 4, some 5, some 6, none, none, none, none, none, none, none, none, none, none, none, none]))) (by decide) rfl dX9_init_49 ?_
  refine x_aload_n hP dX9_init_52 rfl ?_
  refine x_iconst hP dX9_init_53 (v := 5) rfl ?_
  obtain ⟨M7, hM7, hf⟩ := b_lt hf
  refine z_newa hP (L2 := LS15) (id := 8) (ty := .int) (N := 5) (t0 := 0) rfl rfl (by decide) ac_int (by decide) (by decide) (by decide) (by decide +kernel) hM7 dX9_init_54 rfl rfl ?_
  refine z_putF hP (L2 := LS16) fX9_32 (Or.inr ⟨_, rfl⟩) rfl rfl (rfl : LS15[1]? = some (.inr (9, [some 2, some 3, some 4, some 5, some 6, some 7, none, none, none, none, none, none, none, none, none, none, none]))) (by decide) rfl dX9_init_56 ?_
  refine x_aload_n hP dX9_init_59 rfl ?_
  refine x_iconst hP dX9_init_60 (v := 4) rfl ?_
  obtain ⟨M8, hM8, hf⟩ := b_lt hf
  refine z_newa hP (L2 := LS17) (id := 9) (ty := .int) (N := 4) (t0 := 0) rfl rfl (by decide) ac_int (by decide) (by decide) (by decide) (by decide +kernel) hM8 dX9_init_61 rfl rfl ?_
  refine z_putF hP (L2 := LS18) fX9_35 (Or.inr ⟨_, rfl⟩) rfl rfl (rfl : LS17[1]? = some (.inr (9, [some 2, some 3, some 4, some 5, some 6, some 7, some 8, none, none, none, none, none, none, none, none, none, none]))) (by decide) rfl dX9_init_63 ?_
  refine x_aload_n hP dX9_init_66 rfl ?_
  refine x_sipush hP dX9_init_67 (v := 407) rfl ?_
  obtain ⟨M9, hM9, hf⟩ := b_lt hf
  refine z_newa hP (L2 := LS19) (id := 10) (ty := .int) (N := 407) (t0 := 0) rfl rfl (by decide) ac_int (by decide) (by decide) (by decide) (by decide +kernel) hM9 dX9_init_70 rfl rfl ?_
  refine z_putF hP (L2 := LS20) fX9_38 (Or.inr ⟨_, rfl⟩) rfl rfl (rfl : LS19[1]? = some (.inr (9, [some 2, some 3, some 4, some 5, some 6, some 7, some 8, some 9, none, none, none, none, none, none, none, none, none]))) (by decide) rfl dX9_init_72 ?_
  refine x_aload_n hP dX9_init_75 rfl ?_
  obtain ⟨M10, hc11, hf⟩ := b_bd hf
  refine x_callV hP (j := iX9_clear) oX9_clear.1 oX9_clear.2.1 oX9_clear.2.2.1 lX9_41 [] rfl rfl (Nat.le_of_ble_eq_true rfl) (rfl : LS20[1]? = some (.inr (9, [some 2, some 3, some 4, some 5, some 6, some 7, some 8, some 9, some 10, none, none, none, none, none, none, none, none]))) oX9_clear.2.2.2 dX9_init_76 (u_X9_clear (d := d - 1) (by omega) isT_1 hA20_1 hc11) (by omega) (by decide +kernel) ?_
  cases hf
  exact x_vret hP rfl dX9_init_79
theorem hA39_11 : ∀ (id : Nat) (y : Lay), LAY[id]? = some y → 11 ≤ id ∧ id < 21 → LS39[id]? = some y := by
  intro id y h hr
  rw [← h]
  exact agree_of (lo := 11) (hi := 21) (by decide +kernel) hr
def cf_11 (M : Mem) : Option (Mem) :=
  lt (nM M 12) fun M1 =>
  lt (nM M1 13) fun M2 =>
  lt (nM M2 14) fun M3 =>
  lt (nM M3 15) fun M4 =>
  lt (nM M4 16) fun M5 =>
  lt (nM M5 17) fun M6 =>
  lt (nM M6 18) fun M7 =>
  lt (nM M7 19) fun M8 =>
  lt (nM M8 20) fun M9 =>
  (f_X9_clear 11 M9).bind fun M10 =>
  some M10
set_option maxHeartbeats 4000000 in
set_option maxRecDepth 20000 in
theorem ct_11 {g : GG} {d : Nat} (hd : 3 ≤ d) {M M' : Mem} (hf : cf_11 M = some M') : ExM g d iX9_init [.ref 11] LS21 M (none, LS39, M') := by
  refine ExM.of pnX9 (by show LS21.length ≤ LS39.length; decide +kernel) (by show szL LS21 ≤ szL LS39; decide +kernel) (Nat.le_of_ble_eq_true rfl) ?_
  intro P hP
  have hP : IsW g iX9_init d LS39.length (szL LS39) (some (none, LS39, M')) P := hP
  change P 0 [some (.ref 11)] [] LS21 M
  rw [cf_11] at hf
  refine x_aload_n hP dX9_init_0 rfl ?_
  refine x_objInit hP lX9_5 (Nat.le_of_ble_eq_true rfl) (by omega) dX9_init_1 ?_
  refine x_aload_n hP dX9_init_4 rfl ?_
  refine x_bipush hP dX9_init_5 (v := 10) rfl ?_
  obtain ⟨M1, hM1, hf⟩ := b_lt hf
  refine z_newa hP (L2 := LS22) (id := 12) (ty := .int) (N := 10) (t0 := 0) rfl rfl (by decide) ac_int (by decide) (by decide) (by decide) (by decide +kernel) hM1 dX9_init_7 rfl rfl ?_
  refine z_putF hP (L2 := LS23) fX9_11 (Or.inr ⟨_, rfl⟩) rfl rfl (rfl : LS22[11]? = some (.inr (9, [none, none, none, none, none, none, none, none, none, none, none, none, none, none, none, none, none]))) (by decide) rfl dX9_init_9 ?_
  refine x_aload_n hP dX9_init_12 rfl ?_
  refine x_bipush hP dX9_init_13 (v := 10) rfl ?_
  obtain ⟨M2, hM2, hf⟩ := b_lt hf
  refine z_newa hP (L2 := LS24) (id := 13) (ty := .int) (N := 10) (t0 := 0) rfl rfl (by decide) ac_int (by decide) (by decide) (by decide) (by decide +kernel) hM2 dX9_init_15 rfl rfl ?_
  refine z_putF hP (L2 := LS25) fX9_17 (Or.inr ⟨_, rfl⟩) rfl rfl (rfl : LS24[11]? = some (.inr (9, [some 12, none, none, none, none, none, none, none, none, none, none, none, none, none, none, none, none]))) (by decide) rfl dX9_init_17 ?_
  refine x_aload_n hP dX9_init_20 rfl ?_
  refine x_bipush hP dX9_init_21 (v := 10) rfl ?_
  obtain ⟨M3, hM3, hf⟩ := b_lt hf
  refine z_newa hP (L2 := LS26) (id := 14) (ty := .int) (N := 10) (t0 := 0) rfl rfl (by decide) ac_int (by decide) (by decide) (by decide) (by decide +kernel) hM3 dX9_init_23 rfl rfl ?_
  refine z_putF hP (L2 := LS27) fX9_20 (Or.inr ⟨_, rfl⟩) rfl rfl (rfl : LS26[11]? = some (.inr (9, [some 12, some 13, none, none, none, none, none, none, none, none, none, none, none, none, none, none, none]))) (by decide) rfl dX9_init_25 ?_
  refine x_aload_n hP dX9_init_28 rfl ?_
  refine x_bipush hP dX9_init_29 (v := 6) rfl ?_
  obtain ⟨M4, hM4, hf⟩ := b_lt hf
  refine z_newa hP (L2 := LS28) (id := 15) (ty := .int) (N := 6) (t0 := 0) rfl rfl (by decide) ac_int (by decide) (by decide) (by decide) (by decide +kernel) hM4 dX9_init_31 rfl rfl ?_
  refine z_putF hP (L2 := LS29) fX9_23 (Or.inr ⟨_, rfl⟩) rfl rfl (rfl : LS28[11]? = some (.inr (9, [some 12, some 13, some 14, none, none, none, none, none, none, none, none, none, none, none, none, none, none]))) (by decide) rfl dX9_init_33 ?_
  refine x_aload_n hP dX9_init_36 rfl ?_
  refine x_bipush hP dX9_init_37 (v := 6) rfl ?_
  obtain ⟨M5, hM5, hf⟩ := b_lt hf
  refine z_newa hP (L2 := LS30) (id := 16) (ty := .int) (N := 6) (t0 := 0) rfl rfl (by decide) ac_int (by decide) (by decide) (by decide) (by decide +kernel) hM5 dX9_init_39 rfl rfl ?_
  refine z_putF hP (L2 := LS31) fX9_26 (Or.inr ⟨_, rfl⟩) rfl rfl (rfl : LS30[11]? = some (.inr (9, [some 12, some 13, some 14, some 15, none, none, none, none, none, none, none, none, none, none, none, none, none]))) (by decide) rfl dX9_init_41 ?_
  refine x_aload_n hP dX9_init_44 rfl ?_
  refine x_bipush hP dX9_init_45 (v := 6) rfl ?_
  obtain ⟨M6, hM6, hf⟩ := b_lt hf
  refine z_newa hP (L2 := LS32) (id := 17) (ty := .int) (N := 6) (t0 := 0) rfl rfl (by decide) ac_int (by decide) (by decide) (by decide) (by decide +kernel) hM6 dX9_init_47 rfl rfl ?_
  refine z_putF hP (L2 := LS33) fX9_29 (Or.inr ⟨_, rfl⟩) rfl rfl (rfl : LS32[11]? = some (.inr (9, [some 12, some 13, some 14, some 15, some 16, none, none, none, none, none, none, none, none, none, none, none, none]))) (by decide) rfl dX9_init_49 ?_
  refine x_aload_n hP dX9_init_52 rfl ?_
  refine x_iconst hP dX9_init_53 (v := 5) rfl ?_
  obtain ⟨M7, hM7, hf⟩ := b_lt hf
  refine z_newa hP (L2 := LS34) (id := 18) (ty := .int) (N := 5) (t0 := 0) rfl rfl (by decide) ac_int (by decide) (by decide) (by decide) (by decide +kernel) hM7 dX9_init_54 rfl rfl ?_
  refine z_putF hP (L2 := LS35) fX9_32 (Or.inr ⟨_, rfl⟩) rfl rfl (rfl : LS34[11]? = some (.inr (9, [some 12, some 13, some 14, some 15, some 16, some 17, none, none, none, none, none, none, none, none, none, none, none]))) (by decide) rfl dX9_init_56 ?_
  refine x_aload_n hP dX9_init_59 rfl ?_
  refine x_iconst hP dX9_init_60 (v := 4) rfl ?_
  obtain ⟨M8, hM8, hf⟩ := b_lt hf
  refine z_newa hP (L2 := LS36) (id := 19) (ty := .int) (N := 4) (t0 := 0) rfl rfl (by decide) ac_int (by decide) (by decide) (by decide) (by decide +kernel) hM8 dX9_init_61 rfl rfl ?_
  refine z_putF hP (L2 := LS37) fX9_35 (Or.inr ⟨_, rfl⟩) rfl rfl (rfl : LS36[11]? = some (.inr (9, [some 12, some 13, some 14, some 15, some 16, some 17, some 18, none, none, none, none, none, none, none, none, none, none]))) (by decide) rfl dX9_init_63 ?_
  refine x_aload_n hP dX9_init_66 rfl ?_
  refine x_sipush hP dX9_init_67 (v := 407) rfl ?_
  obtain ⟨M9, hM9, hf⟩ := b_lt hf
  refine z_newa hP (L2 := LS38) (id := 20) (ty := .int) (N := 407) (t0 := 0) rfl rfl (by decide) ac_int (by decide) (by decide) (by decide) (by decide +kernel) hM9 dX9_init_70 rfl rfl ?_
  refine z_putF hP (L2 := LS39) fX9_38 (Or.inr ⟨_, rfl⟩) rfl rfl (rfl : LS38[11]? = some (.inr (9, [some 12, some 13, some 14, some 15, some 16, some 17, some 18, some 19, none, none, none, none, none, none, none, none, none]))) (by decide) rfl dX9_init_72 ?_
  refine x_aload_n hP dX9_init_75 rfl ?_
  obtain ⟨M10, hc11, hf⟩ := b_bd hf
  refine x_callV hP (j := iX9_clear) oX9_clear.1 oX9_clear.2.1 oX9_clear.2.2.1 lX9_41 [] rfl rfl (Nat.le_of_ble_eq_true rfl) (rfl : LS39[11]? = some (.inr (9, [some 12, some 13, some 14, some 15, some 16, some 17, some 18, some 19, some 20, none, none, none, none, none, none, none, none]))) oX9_clear.2.2.2 dX9_init_76 (u_X9_clear (d := d - 1) (by omega) isT_11 hA39_11 hc11) (by omega) (by decide +kernel) ?_
  cases hf
  exact x_vret hP rfl dX9_init_79
def cf_21 (M : Mem) : Option (Mem) :=
  lt (nM M 22) fun M1 =>
  some M1
set_option maxHeartbeats 4000000 in
set_option maxRecDepth 20000 in
theorem ct_21 {g : GG} {d : Nat} (hd : 2 ≤ d) {M M' : Mem} (hf : cf_21 M = some M') : ExM g d iX7_init [.ref 21] LS40 M (none, LS42, M') := by
  refine ExM.of pnX7 (by show LS40.length ≤ LS42.length; decide +kernel) (by show szL LS40 ≤ szL LS42; decide +kernel) (Nat.le_of_ble_eq_true rfl) ?_
  intro P hP
  have hP : IsW g iX7_init d LS42.length (szL LS42) (some (none, LS42, M')) P := hP
  change P 0 [some (.ref 21)] [] LS40 M
  rw [cf_21] at hf
  refine x_aload_n hP dX7_init_0 rfl ?_
  refine x_objInit hP lX7_3 (Nat.le_of_ble_eq_true rfl) (by omega) dX7_init_1 ?_
  refine x_aload_n hP dX7_init_4 rfl ?_
  refine x_sipush hP dX7_init_5 (v := 2000) rfl ?_
  obtain ⟨M1, hM1, hf⟩ := b_lt hf
  refine z_newa hP (L2 := LS41) (id := 22) (ty := .byte) (N := 2000) (t0 := 2) rfl rfl (by decide) ac_byte (by decide) (by decide) (by decide) (by decide +kernel) hM1 dX7_init_8 rfl rfl ?_
  refine z_putF hP (L2 := LS42) fX7_11 (Or.inr ⟨_, rfl⟩) rfl rfl (rfl : LS41[21]? = some (.inr (7, [none, none]))) (by decide) rfl dX7_init_10 ?_
  cases hf
  exact x_vret hP rfl dX7_init_13
/-- the loop of QUOTED -/
def tokL : Nat → Int32 → Int64 → Int32 → Mem → Option (Mem)
  | 0, _, _, _, _ => none
  | fu + 1, w, nm, i, M =>
    if (132 : Int32) ≤ i then some M
    else if (23 : Int32) ≤ w then some M
    else if i < 0 then none
    else if qch i = 32 then
      (pj M 28 23 w nm).bind fun M2 => lt (w + 1 : Int32) fun w2 => lt (i + 1 : Int32) fun i2 => tokL fu w2 0 i2 M2
    else
      (f_X8_spell nm (qch i)).bind fun nm2 => lt (i + 1 : Int32) fun i2 => tokL fu w nm2 i2 M
set_option maxHeartbeats 1000000 in
set_option maxRecDepth 20000 in
theorem t_tokL {g : GG} {d : Nat} {P : PT} {nc ns : Nat} {M' : Mem} (hd : 6 ≤ d) (hcap : LS53.length = nc ∧ szL LS53 = ns) (hP : IsW g iX8_init d nc ns (some (none, LS53, M')) P) : ∀ (fu : Nat) (w : Int32) (nm : Int64) (i : Int32) (M : Mem), tokL fu w nm i M = some M' → P 46 [some (.ref 24), some (.int w), some (.long nm), none, some (.int i)] [] LS53 M := by
  intro fu
  induction fu with
  | zero => intro w nm i M hf; simp [tokL] at hf
  | succ fu ih =>
    intro w nm i M hf
    rw [tokL] at hf
    obtain ⟨rfl, rfl⟩ := hcap
    refine x_iload hP dX8_init_46 rfl ?_
    refine x_ldcQ hP rfl dX8_init_48 ?_
    refine x_callVS (j := iJ0_length_8abf5) hP kJ0_length_8abf5 vJ0_length_8abf5 eJ0_length_8abf5 rfl lX8_27 [] [.int i] rfl rfl rfl (Or.inl rfl) dX8_init_50 (t_length (d := d - 1) (by omega) (Or.inl rfl)) (by omega) ?_
    refine x_icmp_ge hP dX8_init_53 (tgt := 107) (by decide) (fun c1 => ?_) (fun c1 => ?_)
    · replace hf := p_t c1 hf
      cases hf
      exact x_vret hP rfl dX8_init_107
    replace hf := p_f c1 hf
    refine x_iload_n hP dX8_init_56 rfl ?_
    refine x_bipush hP dX8_init_57 (v := 23) rfl ?_
    refine x_icmp_ge hP dX8_init_59 (tgt := 107) (by decide) (fun c2 => ?_) (fun c2 => ?_)
    · replace hf := p_t c2 hf
      cases hf
      exact x_vret hP rfl dX8_init_107
    replace hf := p_f c2 hf
    by_cases c3 : i < 0
    · replace hf := p_t c3 hf
      cases hf
    replace hf := p_f c3 hf
    have c4 : i < 132 := Int32.not_le.mp c1
    refine x_ldcQ hP rfl dX8_init_62 ?_
    refine x_iload hP dX8_init_64 rfl ?_
    refine x_callVS (j := iJ0_charAt_5068e) hP kJ0_charAt_5068e vJ0_charAt_5068e eJ0_charAt_5068e rfl lX8_33 [.int i] [] rfl rfl rfl (Or.inl rfl) dX8_init_66 (t_charAt (d := d - 1) (by omega) c3 c4) (by omega) ?_
    refine x_bipush hP dX8_init_69 (v := 32) rfl ?_
    refine x_icmp_ne hP dX8_init_71 (tgt := 89) (by decide) (fun c5 => ?_) (fun c5 => ?_)
    · replace hf := p_f c5 hf
      obtain ⟨nm2, hn2, hf⟩ := b_bd hf
      obtain ⟨i2, hi2, hf⟩ := b_lt hf
      refine x_lload_n hP dX8_init_89 rfl ?_
      refine x_ldcQ hP rfl dX8_init_90 ?_
      refine x_iload hP dX8_init_92 rfl ?_
      refine x_callVS (j := iJ0_charAt_5068e) hP kJ0_charAt_5068e vJ0_charAt_5068e eJ0_charAt_5068e rfl lX8_33 [.int i] [.long nm] rfl rfl rfl (Or.inl rfl) dX8_init_94 (t_charAt (d := d - 1) (by omega) c3 c4) (by omega) ?_
      refine y_csl hP oX8_spell lX8_37 [.long nm, .int (qch i)] [] rfl rfl rfl dX8_init_97 (t_X8_spell (d := d - 1) (by omega) hn2) (by omega) ?_
      refine x_lstore_n hP (ls2 := [some (.ref 24), some (.int w), some (.long nm2), none, some (.int i)]) dX8_init_100 rfl rfl rfl ?_
      refine x_iinc hP (v := i2) (ls2 := [some (.ref 24), some (.int w), some (.long nm2), none, some (.int i2)]) dX8_init_101 rfl (by rw [hi2]; rfl) rfl rfl ?_
      refine x_goto hP dX8_init_104 (tgt := 46) (by decide) ?_
      exact ih _ _ _ _ hf
    · replace hf := p_t c5 hf
      obtain ⟨M2, hin, hM2, hf⟩ := b_pj hf
      obtain ⟨w2, hw2, hf⟩ := b_lt hf
      obtain ⟨i2, hi2, hf⟩ := b_lt hf
      refine x_aload_n hP dX8_init_74 rfl ?_
      refine x_getA hP fX8_22 (rfl : LS53[24]? = some (.inr (8, [some 25, some 26, some 27, some 28]))) (r := 28) rfl dX8_init_75 ?_
      refine x_iload_n hP dX8_init_78 rfl ?_
      refine x_lload_n hP dX8_init_79 rfl ?_
      refine y_lst hP (rfl : LS53[28]? = some (.inl (.long, 23))) hin hM2 dX8_init_80 ?_
      refine x_iinc hP (v := w2) (ls2 := [some (.ref 24), some (.int w2), some (.long nm), none, some (.int i)]) dX8_init_81 rfl (by rw [hw2]; rfl) rfl rfl ?_
      refine x_lconst hP dX8_init_84 (v := 0) rfl ?_
      refine x_lstore_n hP (ls2 := [some (.ref 24), some (.int w2), some (.long 0), none, some (.int i)]) dX8_init_85 rfl rfl rfl ?_
      refine x_goto hP dX8_init_86 (tgt := 101) (by decide) ?_
      refine x_iinc hP (v := i2) (ls2 := [some (.ref 24), some (.int w2), some (.long 0), none, some (.int i2)]) dX8_init_101 rfl (by rw [hi2]; rfl) rfl rfl ?_
      refine x_goto hP dX8_init_104 (tgt := 46) (by decide) ?_
      exact ih _ _ _ _ hf
set_option maxRecDepth 20000 in
theorem t_tok {g : GG} {d : Nat} {P : PT} {nc ns : Nat} {M M' : Mem} (hd : 6 ≤ d) (hP : IsW g iX8_init d nc ns (some (none, LS53, M')) P) (hcap : LS53.length = nc ∧ szL LS53 = ns) (hf : tokL FU 0 0 0 M = some M') : P 39 [some (.ref 24), none, none, none, none] [] LS53 M := by
  refine x_iconst hP dX8_init_39 (v := 0) rfl ?_
  refine x_istore_n hP (ls2 := [some (.ref 24), some (.int 0), none, none, none]) dX8_init_40 rfl rfl rfl ?_
  refine x_lconst hP dX8_init_41 (v := 0) rfl ?_
  refine x_lstore_n hP (ls2 := [some (.ref 24), some (.int 0), some (.long 0), none, none]) dX8_init_42 rfl rfl rfl ?_
  refine x_iconst hP dX8_init_43 (v := 0) rfl ?_
  refine x_istore hP (ls2 := [some (.ref 24), some (.int 0), some (.long 0), none, some (.int 0)]) dX8_init_44 rfl rfl ?_
  exact t_tokL hd hcap hP _ _ _ _ _ hf
def cf_24 (M : Mem) : Option (Mem) :=
  lt (nM M 25) fun M1 =>
  lt (nM M1 26) fun M2 =>
  lt (nM M2 27) fun M3 =>
  lt (nM M3 28) fun M4 =>
  (tokL FU (0 : Int32) (0 : Int64) (0 : Int32) M4).bind fun M5 =>
  some M5
set_option maxHeartbeats 4000000 in
set_option maxRecDepth 20000 in
theorem ct_24 {g : GG} {d : Nat} (hd : 6 ≤ d) {M M' : Mem} (hf : cf_24 M = some M') : ExM g d iX8_init [.ref 24] LS45 M (none, LS53, M') := by
  refine ExM.of pnX8 (by show LS45.length ≤ LS53.length; decide +kernel) (by show szL LS45 ≤ szL LS53; decide +kernel) (Nat.le_of_ble_eq_true rfl) ?_
  intro P hP
  have hP : IsW g iX8_init d LS53.length (szL LS53) (some (none, LS53, M')) P := hP
  change P 0 [some (.ref 24), none, none, none, none] [] LS45 M
  rw [cf_24] at hf
  refine x_aload_n hP dX8_init_0 rfl ?_
  refine x_objInit hP lX8_3 (Nat.le_of_ble_eq_true rfl) (by omega) dX8_init_1 ?_
  refine x_aload_n hP dX8_init_4 rfl ?_
  refine x_sipush hP dX8_init_5 (v := 401) rfl ?_
  obtain ⟨M1, hM1, hf⟩ := b_lt hf
  refine z_newa hP (L2 := LS46) (id := 25) (ty := .int) (N := 401) (t0 := 0) rfl rfl (by decide) ac_int (by decide) (by decide) (by decide) (by decide +kernel) hM1 dX8_init_8 rfl rfl ?_
  refine z_putF hP (L2 := LS47) fX8_11 (Or.inr ⟨_, rfl⟩) rfl rfl (rfl : LS46[24]? = some (.inr (8, [none, none, none, none]))) (by decide) rfl dX8_init_10 ?_
  refine x_aload_n hP dX8_init_13 rfl ?_
  refine x_sipush hP dX8_init_14 (v := 401) rfl ?_
  obtain ⟨M2, hM2, hf⟩ := b_lt hf
  refine z_newa hP (L2 := LS48) (id := 26) (ty := .int) (N := 401) (t0 := 0) rfl rfl (by decide) ac_int (by decide) (by decide) (by decide) (by decide +kernel) hM2 dX8_init_17 rfl rfl ?_
  refine z_putF hP (L2 := LS49) fX8_15 (Or.inr ⟨_, rfl⟩) rfl rfl (rfl : LS48[24]? = some (.inr (8, [some 25, none, none, none]))) (by decide) rfl dX8_init_19 ?_
  refine x_aload_n hP dX8_init_22 rfl ?_
  refine x_sipush hP dX8_init_23 (v := 401) rfl ?_
  obtain ⟨M3, hM3, hf⟩ := b_lt hf
  refine z_newa hP (L2 := LS50) (id := 27) (ty := .long) (N := 401) (t0 := 1) rfl rfl (by decide) ac_long (by decide) (by decide) (by decide) (by decide +kernel) hM3 dX8_init_26 rfl rfl ?_
  refine z_putF hP (L2 := LS51) fX8_18 (Or.inr ⟨_, rfl⟩) rfl rfl (rfl : LS50[24]? = some (.inr (8, [some 25, some 26, none, none]))) (by decide) rfl dX8_init_28 ?_
  refine x_aload_n hP dX8_init_31 rfl ?_
  refine x_bipush hP dX8_init_32 (v := 23) rfl ?_
  obtain ⟨M4, hM4, hf⟩ := b_lt hf
  refine z_newa hP (L2 := LS52) (id := 28) (ty := .long) (N := 23) (t0 := 1) rfl rfl (by decide) ac_long (by decide) (by decide) (by decide) (by decide +kernel) hM4 dX8_init_34 rfl rfl ?_
  refine z_putF hP (L2 := LS53) fX8_22 (Or.inr ⟨_, rfl⟩) rfl rfl (rfl : LS52[24]? = some (.inr (8, [some 25, some 26, some 27, none]))) (by decide) rfl dX8_init_36 ?_
  obtain ⟨M5, hc6, hf⟩ := b_bd hf
  cases hf
  exact t_tok hd hP (by decide +kernel) hc6
def cf_23 (M : Mem) : Option (Mem) :=
  lt (nM M 24) fun M1 =>
  (cf_24 M1).bind fun M2 =>
  lt (nM M2 29) fun M4 =>
  lt (nM M4 30) fun M5 =>
  lt (sR M5 23 5 (some 11)) fun M6 =>
  some M6
set_option maxHeartbeats 4000000 in
set_option maxRecDepth 20000 in
theorem ct_23 {g : GG} {d : Nat} (hd : 7 ≤ d) {M M' : Mem} (hf : cf_23 M = some M') : ExM g d iX6_init [.ref 23, .ref 11] LS44 M (none, LS58, M') := by
  refine ExM.of pnX6 (by show LS44.length ≤ LS58.length; decide +kernel) (by show szL LS44 ≤ szL LS58; decide +kernel) (Nat.le_of_ble_eq_true rfl) ?_
  intro P hP
  have hP : IsW g iX6_init d LS58.length (szL LS58) (some (none, LS58, M')) P := hP
  change P 0 [some (.ref 23), some (.ref 11)] [] LS44 M
  rw [cf_23] at hf
  refine x_aload_n hP dX6_init_0 rfl ?_
  refine x_objInit hP lX6_3 (Nat.le_of_ble_eq_true rfl) (by omega) dX6_init_1 ?_
  refine x_aload_n hP dX6_init_4 rfl ?_
  obtain ⟨M1, hM1, hf⟩ := b_lt hf
  refine z_new hP (L2 := LS45) (id := 24) (ci := 8) rfl rfl aX6_9 iX8 zX8 (by decide +kernel) hM1 dX6_init_5 rfl ?_
  refine x_dup hP dX6_init_8 rfl ?_
  obtain ⟨M2, hc3, hf⟩ := b_bd hf
  refine x_callI hP (y := yX8_init) (cc := cX8_init) (nL := 5) (n := 0) kX8_init rfl vX8_init (Or.inl lX6_11) [] rfl rfl (Nat.le_of_ble_eq_true rfl) dX6_init_9 (ct_24 (d := d - 1) (by omega) hc3) (by omega) (by decide +kernel) ?_
  refine z_putF hP (L2 := LS54) fX6_12 (Or.inl ⟨_, rfl⟩) rfl rfl (rfl : LS53[23]? = some (.inr (6, [none, none, none, none, none, none, none, none, none, none]))) (by decide) rfl dX6_init_12 ?_
  refine x_aload_n hP dX6_init_15 rfl ?_
  refine x_bipush hP dX6_init_16 (v := 18) rfl ?_
  obtain ⟨M4, hM4, hf⟩ := b_lt hf
  refine z_newa hP (L2 := LS55) (id := 29) (ty := .long) (N := 18) (t0 := 1) rfl rfl (by decide) ac_long (by decide) (by decide) (by decide) (by decide +kernel) hM4 dX6_init_18 rfl rfl ?_
  refine z_putF hP (L2 := LS56) fX6_18 (Or.inr ⟨_, rfl⟩) rfl rfl (rfl : LS55[23]? = some (.inr (6, [none, some 24, none, none, none, none, none, none, none, none]))) (by decide) rfl dX6_init_20 ?_
  refine x_aload_n hP dX6_init_23 rfl ?_
  refine x_bipush hP dX6_init_24 (v := 18) rfl ?_
  obtain ⟨M5, hM5, hf⟩ := b_lt hf
  refine z_newa hP (L2 := LS57) (id := 30) (ty := .int) (N := 18) (t0 := 0) rfl rfl (by decide) ac_int (by decide) (by decide) (by decide) (by decide +kernel) hM5 dX6_init_26 rfl rfl ?_
  refine z_putF hP (L2 := LS58) fX6_22 (Or.inr ⟨_, rfl⟩) rfl rfl (rfl : LS57[23]? = some (.inr (6, [none, some 24, some 29, none, none, none, none, none, none, none]))) (by decide) rfl dX6_init_28 ?_
  refine x_aload_n hP dX6_init_31 rfl ?_
  refine x_aload_n hP dX6_init_32 rfl ?_
  obtain ⟨M6, hM6, hf⟩ := b_lt hf
  refine z_putM hP fX6_26 (rfl : LS58[23]? = some (.inr (6, [none, some 24, some 29, some 30, none, none, none, none, none, none]))) hM6 dX6_init_33 ?_
  cases hf
  exact x_vret hP rfl dX6_init_36
def cf_31 (M : Mem) : Option (Mem) :=
  lt (nM M 32) fun M1 =>
  lt (nM M1 33) fun M2 =>
  some M2
set_option maxHeartbeats 4000000 in
set_option maxRecDepth 20000 in
theorem ct_31 {g : GG} {d : Nat} (hd : 2 ≤ d) {M M' : Mem} (hf : cf_31 M = some M') : ExM g d iX2_init [.ref 31] LS60 M (none, LS64, M') := by
  refine ExM.of pnX2 (by show LS60.length ≤ LS64.length; decide +kernel) (by show szL LS60 ≤ szL LS64; decide +kernel) (Nat.le_of_ble_eq_true rfl) ?_
  intro P hP
  have hP : IsW g iX2_init d LS64.length (szL LS64) (some (none, LS64, M')) P := hP
  change P 0 [some (.ref 31)] [] LS60 M
  rw [cf_31] at hf
  refine x_aload_n hP dX2_init_0 rfl ?_
  refine x_objInit hP lX2_3 (Nat.le_of_ble_eq_true rfl) (by omega) dX2_init_1 ?_
  refine x_aload_n hP dX2_init_4 rfl ?_
  refine x_bipush hP dX2_init_5 (v := 9) rfl ?_
  obtain ⟨M1, hM1, hf⟩ := b_lt hf
  refine z_newa hP (L2 := LS61) (id := 32) (ty := .int) (N := 9) (t0 := 0) rfl rfl (by decide) ac_int (by decide) (by decide) (by decide) (by decide +kernel) hM1 dX2_init_7 rfl rfl ?_
  refine z_putF hP (L2 := LS62) fX2_11 (Or.inr ⟨_, rfl⟩) rfl rfl (rfl : LS61[31]? = some (.inr (2, [none, none]))) (by decide) rfl dX2_init_9 ?_
  refine x_aload_n hP dX2_init_12 rfl ?_
  refine x_bipush hP dX2_init_13 (v := 24) rfl ?_
  obtain ⟨M2, hM2, hf⟩ := b_lt hf
  refine z_newa hP (L2 := LS63) (id := 33) (ty := .int) (N := 24) (t0 := 0) rfl rfl (by decide) ac_int (by decide) (by decide) (by decide) (by decide +kernel) hM2 dX2_init_15 rfl rfl ?_
  refine z_putF hP (L2 := LS64) fX2_15 (Or.inr ⟨_, rfl⟩) rfl rfl (rfl : LS63[31]? = some (.inr (2, [some 32, none]))) (by decide) rfl dX2_init_17 ?_
  cases hf
  exact x_vret hP rfl dX2_init_20
def cf_35 (M : Mem) : Option (Mem) :=
  lt (nM M 36) fun M1 =>
  lt (nM M1 37) fun M2 =>
  some M2
set_option maxHeartbeats 4000000 in
set_option maxRecDepth 20000 in
theorem ct_35 {g : GG} {d : Nat} (hd : 2 ≤ d) {M M' : Mem} (hf : cf_35 M = some M') : ExM g d iX2_init [.ref 35] LS67 M (none, LS71, M') := by
  refine ExM.of pnX2 (by show LS67.length ≤ LS71.length; decide +kernel) (by show szL LS67 ≤ szL LS71; decide +kernel) (Nat.le_of_ble_eq_true rfl) ?_
  intro P hP
  have hP : IsW g iX2_init d LS71.length (szL LS71) (some (none, LS71, M')) P := hP
  change P 0 [some (.ref 35)] [] LS67 M
  rw [cf_35] at hf
  refine x_aload_n hP dX2_init_0 rfl ?_
  refine x_objInit hP lX2_3 (Nat.le_of_ble_eq_true rfl) (by omega) dX2_init_1 ?_
  refine x_aload_n hP dX2_init_4 rfl ?_
  refine x_bipush hP dX2_init_5 (v := 9) rfl ?_
  obtain ⟨M1, hM1, hf⟩ := b_lt hf
  refine z_newa hP (L2 := LS68) (id := 36) (ty := .int) (N := 9) (t0 := 0) rfl rfl (by decide) ac_int (by decide) (by decide) (by decide) (by decide +kernel) hM1 dX2_init_7 rfl rfl ?_
  refine z_putF hP (L2 := LS69) fX2_11 (Or.inr ⟨_, rfl⟩) rfl rfl (rfl : LS68[35]? = some (.inr (2, [none, none]))) (by decide) rfl dX2_init_9 ?_
  refine x_aload_n hP dX2_init_12 rfl ?_
  refine x_bipush hP dX2_init_13 (v := 24) rfl ?_
  obtain ⟨M2, hM2, hf⟩ := b_lt hf
  refine z_newa hP (L2 := LS70) (id := 37) (ty := .int) (N := 24) (t0 := 0) rfl rfl (by decide) ac_int (by decide) (by decide) (by decide) (by decide +kernel) hM2 dX2_init_15 rfl rfl ?_
  refine z_putF hP (L2 := LS71) fX2_15 (Or.inr ⟨_, rfl⟩) rfl rfl (rfl : LS70[35]? = some (.inr (2, [some 36, none]))) (by decide) rfl dX2_init_17 ?_
  cases hf
  exact x_vret hP rfl dX2_init_20
def cf_38 (M : Mem) : Option (Mem) :=
  lt (nM M 39) fun M1 =>
  lt (nM M1 40) fun M2 =>
  lt (nM M2 41) fun M3 =>
  lt (nM M3 42) fun M4 =>
  lt (nM M4 43) fun M5 =>
  lt (nM M5 44) fun M6 =>
  lt (sR M6 38 0 (some 1)) fun M7 =>
  some M7
set_option maxHeartbeats 4000000 in
set_option maxRecDepth 20000 in
theorem ct_38 {g : GG} {d : Nat} (hd : 2 ≤ d) {M M' : Mem} (hf : cf_38 M = some M') : ExM g d iX3_init [.ref 38, .ref 1] LS73 M (none, LS85, M') := by
  refine ExM.of pnX3 (by show LS73.length ≤ LS85.length; decide +kernel) (by show szL LS73 ≤ szL LS85; decide +kernel) (Nat.le_of_ble_eq_true rfl) ?_
  intro P hP
  have hP : IsW g iX3_init d LS85.length (szL LS85) (some (none, LS85, M')) P := hP
  change P 0 [some (.ref 38), some (.ref 1)] [] LS73 M
  rw [cf_38] at hf
  refine x_aload_n hP dX3_init_0 rfl ?_
  refine x_objInit hP lX3_3 (Nat.le_of_ble_eq_true rfl) (by omega) dX3_init_1 ?_
  refine x_aload_n hP dX3_init_4 rfl ?_
  refine x_bipush hP dX3_init_5 (v := 6) rfl ?_
  obtain ⟨M1, hM1, hf⟩ := b_lt hf
  refine z_newa hP (L2 := LS74) (id := 39) (ty := .int) (N := 6) (t0 := 0) rfl rfl (by decide) ac_int (by decide) (by decide) (by decide) (by decide +kernel) hM1 dX3_init_7 rfl rfl ?_
  refine z_putF hP (L2 := LS75) fX3_9 (Or.inr ⟨_, rfl⟩) rfl rfl (rfl : LS74[38]? = some (.inr (3, [none, none, none, none, none, none, none, none, none, none, none]))) (by decide) rfl dX3_init_9 ?_
  refine x_aload_n hP dX3_init_12 rfl ?_
  refine x_bipush hP dX3_init_13 (v := 6) rfl ?_
  obtain ⟨M2, hM2, hf⟩ := b_lt hf
  refine z_newa hP (L2 := LS76) (id := 40) (ty := .int) (N := 6) (t0 := 0) rfl rfl (by decide) ac_int (by decide) (by decide) (by decide) (by decide +kernel) hM2 dX3_init_15 rfl rfl ?_
  refine z_putF hP (L2 := LS77) fX3_15 (Or.inr ⟨_, rfl⟩) rfl rfl (rfl : LS76[38]? = some (.inr (3, [none, none, none, none, none, some 39, none, none, none, none, none]))) (by decide) rfl dX3_init_17 ?_
  refine x_aload_n hP dX3_init_20 rfl ?_
  refine x_bipush hP dX3_init_21 (v := 6) rfl ?_
  obtain ⟨M3, hM3, hf⟩ := b_lt hf
  refine z_newa hP (L2 := LS78) (id := 41) (ty := .int) (N := 6) (t0 := 0) rfl rfl (by decide) ac_int (by decide) (by decide) (by decide) (by decide +kernel) hM3 dX3_init_23 rfl rfl ?_
  refine z_putF hP (L2 := LS79) fX3_18 (Or.inr ⟨_, rfl⟩) rfl rfl (rfl : LS78[38]? = some (.inr (3, [none, none, none, none, none, some 39, some 40, none, none, none, none]))) (by decide) rfl dX3_init_25 ?_
  refine x_aload_n hP dX3_init_28 rfl ?_
  refine x_bipush hP dX3_init_29 (v := 6) rfl ?_
  obtain ⟨M4, hM4, hf⟩ := b_lt hf
  refine z_newa hP (L2 := LS80) (id := 42) (ty := .int) (N := 6) (t0 := 0) rfl rfl (by decide) ac_int (by decide) (by decide) (by decide) (by decide +kernel) hM4 dX3_init_31 rfl rfl ?_
  refine z_putF hP (L2 := LS81) fX3_21 (Or.inr ⟨_, rfl⟩) rfl rfl (rfl : LS80[38]? = some (.inr (3, [none, none, none, none, none, some 39, some 40, some 41, none, none, none]))) (by decide) rfl dX3_init_33 ?_
  refine x_aload_n hP dX3_init_36 rfl ?_
  refine x_iconst hP dX3_init_37 (v := 5) rfl ?_
  obtain ⟨M5, hM5, hf⟩ := b_lt hf
  refine z_newa hP (L2 := LS82) (id := 43) (ty := .int) (N := 5) (t0 := 0) rfl rfl (by decide) ac_int (by decide) (by decide) (by decide) (by decide +kernel) hM5 dX3_init_38 rfl rfl ?_
  refine z_putF hP (L2 := LS83) fX3_24 (Or.inr ⟨_, rfl⟩) rfl rfl (rfl : LS82[38]? = some (.inr (3, [none, none, none, none, none, some 39, some 40, some 41, some 42, none, none]))) (by decide) rfl dX3_init_40 ?_
  refine x_aload_n hP dX3_init_43 rfl ?_
  refine x_iconst hP dX3_init_44 (v := 5) rfl ?_
  obtain ⟨M6, hM6, hf⟩ := b_lt hf
  refine z_newa hP (L2 := LS84) (id := 44) (ty := .int) (N := 5) (t0 := 0) rfl rfl (by decide) ac_int (by decide) (by decide) (by decide) (by decide +kernel) hM6 dX3_init_45 rfl rfl ?_
  refine z_putF hP (L2 := LS85) fX3_27 (Or.inr ⟨_, rfl⟩) rfl rfl (rfl : LS84[38]? = some (.inr (3, [none, none, none, none, none, some 39, some 40, some 41, some 42, some 43, none]))) (by decide) rfl dX3_init_47 ?_
  refine x_aload_n hP dX3_init_50 rfl ?_
  refine x_aload_n hP dX3_init_51 rfl ?_
  obtain ⟨M7, hM7, hf⟩ := b_lt hf
  refine z_putM hP fX3_30 (rfl : LS85[38]? = some (.inr (3, [none, none, none, none, none, some 39, some 40, some 41, some 42, some 43, some 44]))) hM7 dX3_init_52 ?_
  cases hf
  exact x_vret hP rfl dX3_init_55
def cf_34 (M : Mem) : Option (Mem) :=
  lt (nM M 35) fun M1 =>
  (cf_35 M1).bind fun M2 =>
  lt (nM M2 38) fun M4 =>
  (cf_38 M4).bind fun M5 =>
  some M5
set_option maxHeartbeats 4000000 in
set_option maxRecDepth 20000 in
theorem ct_34 {g : GG} {d : Nat} (hd : 3 ≤ d) {M M' : Mem} (hf : cf_34 M = some M') : ExM g d iX0_init [.ref 34, .ref 1] LS66 M (none, LS86, M') := by
  refine ExM.of pnX0 (by show LS66.length ≤ LS86.length; decide +kernel) (by show szL LS66 ≤ szL LS86; decide +kernel) (Nat.le_of_ble_eq_true rfl) ?_
  intro P hP
  have hP : IsW g iX0_init d LS86.length (szL LS86) (some (none, LS86, M')) P := hP
  change P 0 [some (.ref 34), some (.ref 1)] [] LS66 M
  rw [cf_34] at hf
  refine x_aload_n hP dX0_init_0 rfl ?_
  refine x_objInit hP lX0_3 (Nat.le_of_ble_eq_true rfl) (by omega) dX0_init_1 ?_
  refine x_aload_n hP dX0_init_4 rfl ?_
  obtain ⟨M1, hM1, hf⟩ := b_lt hf
  refine z_new hP (L2 := LS67) (id := 35) (ci := 2) rfl rfl aX0_9 iX2 zX2 (by decide +kernel) hM1 dX0_init_5 rfl ?_
  refine x_dup hP dX0_init_8 rfl ?_
  obtain ⟨M2, hc3, hf⟩ := b_bd hf
  refine x_callI hP (y := yX2_init) (cc := cX2_init) (nL := 1) (n := 0) kX2_init rfl vX2_init (Or.inr ⟨_, nX0_11⟩) [] rfl rfl (Nat.le_of_ble_eq_true rfl) dX0_init_9 (ct_35 (d := d - 1) (by omega) hc3) (by omega) (by decide +kernel) ?_
  refine z_putF hP (L2 := LS72) fX0_12 (Or.inl ⟨_, rfl⟩) rfl rfl (rfl : LS71[34]? = some (.inr (0, [none, none]))) (by decide) rfl dX0_init_12 ?_
  refine x_aload_n hP dX0_init_15 rfl ?_
  obtain ⟨M4, hM4, hf⟩ := b_lt hf
  refine z_new hP (L2 := LS73) (id := 38) (ci := 3) rfl rfl aX0_18 iX3 zX3 (by decide +kernel) hM4 dX0_init_16 rfl ?_
  refine x_dup hP dX0_init_19 rfl ?_
  refine x_aload_n hP dX0_init_20 rfl ?_
  obtain ⟨M5, hc6, hf⟩ := b_bd hf
  refine x_callI hP (y := yX3_init) (cc := cX3_init) (nL := 2) (n := 1) kX3_init rfl vX3_init (Or.inl lX0_20) [.ref 1] rfl rfl (Nat.le_of_ble_eq_true rfl) dX0_init_21 (ct_38 (d := d - 1) (by omega) hc6) (by omega) (by decide +kernel) ?_
  refine z_putF hP (L2 := LS86) fX0_23 (Or.inl ⟨_, rfl⟩) rfl rfl (rfl : LS85[34]? = some (.inr (0, [some 35, none]))) (by decide) rfl dX0_init_24 ?_
  cases hf
  exact x_vret hP rfl dX0_init_27
def cf_45 (M : Mem) : Option (Mem) :=
  lt (nM M 46) fun M1 =>
  lt (nM M1 47) fun M2 =>
  some M2
set_option maxHeartbeats 4000000 in
set_option maxRecDepth 20000 in
theorem ct_45 {g : GG} {d : Nat} (hd : 2 ≤ d) {M M' : Mem} (hf : cf_45 M = some M') : ExM g d iX10_init [.ref 45] LS88 M (none, LS92, M') := by
  refine ExM.of pnX10 (by show LS88.length ≤ LS92.length; decide +kernel) (by show szL LS88 ≤ szL LS92; decide +kernel) (Nat.le_of_ble_eq_true rfl) ?_
  intro P hP
  have hP : IsW g iX10_init d LS92.length (szL LS92) (some (none, LS92, M')) P := hP
  change P 0 [some (.ref 45)] [] LS88 M
  rw [cf_45] at hf
  refine x_aload_n hP dX10_init_0 rfl ?_
  refine x_objInit hP lX10_3 (Nat.le_of_ble_eq_true rfl) (by omega) dX10_init_1 ?_
  refine x_aload_n hP dX10_init_4 rfl ?_
  refine x_bipush hP dX10_init_5 (v := 7) rfl ?_
  obtain ⟨M1, hM1, hf⟩ := b_lt hf
  refine z_newa hP (L2 := LS89) (id := 46) (ty := .int) (N := 7) (t0 := 0) rfl rfl (by decide) ac_int (by decide) (by decide) (by decide) (by decide +kernel) hM1 dX10_init_7 rfl rfl ?_
  refine z_putF hP (L2 := LS90) fX10_9 (Or.inr ⟨_, rfl⟩) rfl rfl (rfl : LS89[45]? = some (.inr (10, [none, none]))) (by decide) rfl dX10_init_9 ?_
  refine x_aload_n hP dX10_init_12 rfl ?_
  refine x_bipush hP dX10_init_13 (v := 49) rfl ?_
  obtain ⟨M2, hM2, hf⟩ := b_lt hf
  refine z_newa hP (L2 := LS91) (id := 47) (ty := .int) (N := 49) (t0 := 0) rfl rfl (by decide) ac_int (by decide) (by decide) (by decide) (by decide +kernel) hM2 dX10_init_15 rfl rfl ?_
  refine z_putF hP (L2 := LS92) fX10_15 (Or.inr ⟨_, rfl⟩) rfl rfl (rfl : LS91[45]? = some (.inr (10, [some 46, none]))) (by decide) rfl dX10_init_17 ?_
  cases hf
  exact x_vret hP rfl dX10_init_20
def cf_48 (M : Mem) : Option (Mem) :=
  lt (nM M 49) fun M1 =>
  lt (sI M1 48 2 (1 : Int32)) fun M2 =>
  lt (nM M2 50) fun M3 =>
  lt (nM M3 51) fun M4 =>
  lt (nM M4 52) fun M5 =>
  some M5
set_option maxHeartbeats 4000000 in
set_option maxRecDepth 20000 in
theorem ct_48 {g : GG} {d : Nat} (hd : 2 ≤ d) {M M' : Mem} (hf : cf_48 M = some M') : ExM g d iX5_init [.ref 48] LS94 M (none, LS102, M') := by
  refine ExM.of pnX5 (by show LS94.length ≤ LS102.length; decide +kernel) (by show szL LS94 ≤ szL LS102; decide +kernel) (Nat.le_of_ble_eq_true rfl) ?_
  intro P hP
  have hP : IsW g iX5_init d LS102.length (szL LS102) (some (none, LS102, M')) P := hP
  change P 0 [some (.ref 48)] [] LS94 M
  rw [cf_48] at hf
  refine x_aload_n hP dX5_init_0 rfl ?_
  refine x_objInit hP lX5_3 (Nat.le_of_ble_eq_true rfl) (by omega) dX5_init_1 ?_
  refine x_aload_n hP dX5_init_4 rfl ?_
  refine x_bipush hP dX5_init_5 (v := 6) rfl ?_
  obtain ⟨M1, hM1, hf⟩ := b_lt hf
  refine z_newa hP (L2 := LS95) (id := 49) (ty := .int) (N := 6) (t0 := 0) rfl rfl (by decide) ac_int (by decide) (by decide) (by decide) (by decide +kernel) hM1 dX5_init_7 rfl rfl ?_
  refine z_putF hP (L2 := LS96) fX5_9 (Or.inr ⟨_, rfl⟩) rfl rfl (rfl : LS95[48]? = some (.inr (5, [none, none, none, none, none, none, none]))) (by decide) rfl dX5_init_9 ?_
  refine x_aload_n hP dX5_init_12 rfl ?_
  refine x_iconst hP dX5_init_13 (v := 1) rfl ?_
  obtain ⟨M2, hM2, hf⟩ := b_lt hf
  refine z_putZ hP fX5_15 (Or.inr rfl) (rfl : LS96[48]? = some (.inr (5, [some 49, none, none, none, none, none, none]))) hM2 dX5_init_14 ?_
  refine x_aload_n hP dX5_init_17 rfl ?_
  refine x_bipush hP dX5_init_18 (v := 7) rfl ?_
  obtain ⟨M3, hM3, hf⟩ := b_lt hf
  refine z_newa hP (L2 := LS97) (id := 50) (ty := .int) (N := 7) (t0 := 0) rfl rfl (by decide) ac_int (by decide) (by decide) (by decide) (by decide +kernel) hM3 dX5_init_20 rfl rfl ?_
  refine z_putF hP (L2 := LS98) fX5_19 (Or.inr ⟨_, rfl⟩) rfl rfl (rfl : LS97[48]? = some (.inr (5, [some 49, none, none, none, none, none, none]))) (by decide) rfl dX5_init_22 ?_
  refine x_aload_n hP dX5_init_25 rfl ?_
  refine x_bipush hP dX5_init_26 (v := 7) rfl ?_
  obtain ⟨M4, hM4, hf⟩ := b_lt hf
  refine z_newa hP (L2 := LS99) (id := 51) (ty := .int) (N := 7) (t0 := 0) rfl rfl (by decide) ac_int (by decide) (by decide) (by decide) (by decide +kernel) hM4 dX5_init_28 rfl rfl ?_
  refine z_putF hP (L2 := LS100) fX5_22 (Or.inr ⟨_, rfl⟩) rfl rfl (rfl : LS99[48]? = some (.inr (5, [some 49, none, none, some 50, none, none, none]))) (by decide) rfl dX5_init_30 ?_
  refine x_aload_n hP dX5_init_33 rfl ?_
  refine x_bipush hP dX5_init_34 (v := 6) rfl ?_
  obtain ⟨M5, hM5, hf⟩ := b_lt hf
  refine z_newa hP (L2 := LS101) (id := 52) (ty := .int) (N := 6) (t0 := 0) rfl rfl (by decide) ac_int (by decide) (by decide) (by decide) (by decide +kernel) hM5 dX5_init_36 rfl rfl ?_
  refine z_putF hP (L2 := LS102) fX5_25 (Or.inr ⟨_, rfl⟩) rfl rfl (rfl : LS101[48]? = some (.inr (5, [some 49, none, none, some 50, some 51, none, none]))) (by decide) rfl dX5_init_38 ?_
  cases hf
  exact x_vret hP rfl dX5_init_41
def cf_53 (M : Mem) : Option (Mem) :=
  lt (nM M 54) fun M1 =>
  lt (nM M1 55) fun M2 =>
  lt (nM M2 56) fun M3 =>
  some M3
set_option maxHeartbeats 4000000 in
set_option maxRecDepth 20000 in
theorem ct_53 {g : GG} {d : Nat} (hd : 2 ≤ d) {M M' : Mem} (hf : cf_53 M = some M') : ExM g d iX1_init [.ref 53] LS104 M (none, LS110, M') := by
  refine ExM.of pnX1 (by show LS104.length ≤ LS110.length; decide +kernel) (by show szL LS104 ≤ szL LS110; decide +kernel) (Nat.le_of_ble_eq_true rfl) ?_
  intro P hP
  have hP : IsW g iX1_init d LS110.length (szL LS110) (some (none, LS110, M')) P := hP
  change P 0 [some (.ref 53)] [] LS104 M
  rw [cf_53] at hf
  refine x_aload_n hP dX1_init_0 rfl ?_
  refine x_objInit hP lX1_3 (Nat.le_of_ble_eq_true rfl) (by omega) dX1_init_1 ?_
  refine x_aload_n hP dX1_init_4 rfl ?_
  refine x_bipush hP dX1_init_5 (v := 20) rfl ?_
  obtain ⟨M1, hM1, hf⟩ := b_lt hf
  refine z_newa hP (L2 := LS105) (id := 54) (ty := .int) (N := 20) (t0 := 0) rfl rfl (by decide) ac_int (by decide) (by decide) (by decide) (by decide +kernel) hM1 dX1_init_7 rfl rfl ?_
  refine z_putF hP (L2 := LS106) fX1_11 (Or.inr ⟨_, rfl⟩) rfl rfl (rfl : LS105[53]? = some (.inr (1, [none, none, none, none]))) (by decide) rfl dX1_init_9 ?_
  refine x_aload_n hP dX1_init_12 rfl ?_
  refine x_bipush hP dX1_init_13 (v := 20) rfl ?_
  obtain ⟨M2, hM2, hf⟩ := b_lt hf
  refine z_newa hP (L2 := LS107) (id := 55) (ty := .int) (N := 20) (t0 := 0) rfl rfl (by decide) ac_int (by decide) (by decide) (by decide) (by decide +kernel) hM2 dX1_init_15 rfl rfl ?_
  refine z_putF hP (L2 := LS108) fX1_15 (Or.inr ⟨_, rfl⟩) rfl rfl (rfl : LS107[53]? = some (.inr (1, [none, some 54, none, none]))) (by decide) rfl dX1_init_17 ?_
  refine x_aload_n hP dX1_init_20 rfl ?_
  refine x_bipush hP dX1_init_21 (v := 20) rfl ?_
  obtain ⟨M3, hM3, hf⟩ := b_lt hf
  refine z_newa hP (L2 := LS109) (id := 56) (ty := .int) (N := 20) (t0 := 0) rfl rfl (by decide) ac_int (by decide) (by decide) (by decide) (by decide +kernel) hM3 dX1_init_23 rfl rfl ?_
  refine z_putF hP (L2 := LS110) fX1_18 (Or.inr ⟨_, rfl⟩) rfl rfl (rfl : LS109[53]? = some (.inr (1, [none, some 54, some 55, none]))) (by decide) rfl dX1_init_25 ?_
  cases hf
  exact x_vret hP rfl dX1_init_28
def cf_57 (M : Mem) : Option (Mem) :=
  lt (nM M 58) fun M1 =>
  lt (nM M1 59) fun M2 =>
  some M2
set_option maxHeartbeats 4000000 in
set_option maxRecDepth 20000 in
theorem ct_57 {g : GG} {d : Nat} (hd : 2 ≤ d) {M M' : Mem} (hf : cf_57 M = some M') : ExM g d iX4_init [.ref 57] LS112 M (none, LS116, M') := by
  refine ExM.of pnX4 (by show LS112.length ≤ LS116.length; decide +kernel) (by show szL LS112 ≤ szL LS116; decide +kernel) (Nat.le_of_ble_eq_true rfl) ?_
  intro P hP
  have hP : IsW g iX4_init d LS116.length (szL LS116) (some (none, LS116, M')) P := hP
  change P 0 [some (.ref 57)] [] LS112 M
  rw [cf_57] at hf
  refine x_aload_n hP dX4_init_0 rfl ?_
  refine x_objInit hP lX4_3 (Nat.le_of_ble_eq_true rfl) (by omega) dX4_init_1 ?_
  refine x_aload_n hP dX4_init_4 rfl ?_
  refine x_sipush hP dX4_init_5 (v := 1520) rfl ?_
  obtain ⟨M1, hM1, hf⟩ := b_lt hf
  refine z_newa hP (L2 := LS113) (id := 58) (ty := .int) (N := 1520) (t0 := 0) rfl rfl (by decide) ac_int (by decide) (by decide) (by decide) (by decide +kernel) hM1 dX4_init_8 rfl rfl ?_
  refine z_putF hP (L2 := LS114) fX4_13 (Or.inr ⟨_, rfl⟩) rfl rfl (rfl : LS113[57]? = some (.inr (4, [none, none, none, none, none]))) (by decide) rfl dX4_init_10 ?_
  refine x_aload_n hP dX4_init_13 rfl ?_
  refine x_bipush hP dX4_init_14 (v := 114) rfl ?_
  obtain ⟨M2, hM2, hf⟩ := b_lt hf
  refine z_newa hP (L2 := LS115) (id := 59) (ty := .int) (N := 114) (t0 := 0) rfl rfl (by decide) ac_int (by decide) (by decide) (by decide) (by decide +kernel) hM2 dX4_init_16 rfl rfl ?_
  refine z_putF hP (L2 := LS116) fX4_17 (Or.inr ⟨_, rfl⟩) rfl rfl (rfl : LS115[57]? = some (.inr (4, [none, none, some 58, none, none]))) (by decide) rfl dX4_init_18 ?_
  cases hf
  exact x_vret hP rfl dX4_init_21
def cf_60 (M : Mem) : Option (Mem) :=
  lt (nM M 61) fun M1 =>
  lt (nM M1 62) fun M2 =>
  lt (nM M2 63) fun M3 =>
  lt (nM M3 64) fun M4 =>
  lt (nM M4 65) fun M5 =>
  lt (nM M5 66) fun M6 =>
  lt (sR M6 60 0 (some 1)) fun M7 =>
  some M7
set_option maxHeartbeats 4000000 in
set_option maxRecDepth 20000 in
theorem ct_60 {g : GG} {d : Nat} (hd : 2 ≤ d) {M M' : Mem} (hf : cf_60 M = some M') : ExM g d iX3_init [.ref 60, .ref 1] LS118 M (none, LS130, M') := by
  refine ExM.of pnX3 (by show LS118.length ≤ LS130.length; decide +kernel) (by show szL LS118 ≤ szL LS130; decide +kernel) (Nat.le_of_ble_eq_true rfl) ?_
  intro P hP
  have hP : IsW g iX3_init d LS130.length (szL LS130) (some (none, LS130, M')) P := hP
  change P 0 [some (.ref 60), some (.ref 1)] [] LS118 M
  rw [cf_60] at hf
  refine x_aload_n hP dX3_init_0 rfl ?_
  refine x_objInit hP lX3_3 (Nat.le_of_ble_eq_true rfl) (by omega) dX3_init_1 ?_
  refine x_aload_n hP dX3_init_4 rfl ?_
  refine x_bipush hP dX3_init_5 (v := 6) rfl ?_
  obtain ⟨M1, hM1, hf⟩ := b_lt hf
  refine z_newa hP (L2 := LS119) (id := 61) (ty := .int) (N := 6) (t0 := 0) rfl rfl (by decide) ac_int (by decide) (by decide) (by decide) (by decide +kernel) hM1 dX3_init_7 rfl rfl ?_
  refine z_putF hP (L2 := LS120) fX3_9 (Or.inr ⟨_, rfl⟩) rfl rfl (rfl : LS119[60]? = some (.inr (3, [none, none, none, none, none, none, none, none, none, none, none]))) (by decide) rfl dX3_init_9 ?_
  refine x_aload_n hP dX3_init_12 rfl ?_
  refine x_bipush hP dX3_init_13 (v := 6) rfl ?_
  obtain ⟨M2, hM2, hf⟩ := b_lt hf
  refine z_newa hP (L2 := LS121) (id := 62) (ty := .int) (N := 6) (t0 := 0) rfl rfl (by decide) ac_int (by decide) (by decide) (by decide) (by decide +kernel) hM2 dX3_init_15 rfl rfl ?_
  refine z_putF hP (L2 := LS122) fX3_15 (Or.inr ⟨_, rfl⟩) rfl rfl (rfl : LS121[60]? = some (.inr (3, [none, none, none, none, none, some 61, none, none, none, none, none]))) (by decide) rfl dX3_init_17 ?_
  refine x_aload_n hP dX3_init_20 rfl ?_
  refine x_bipush hP dX3_init_21 (v := 6) rfl ?_
  obtain ⟨M3, hM3, hf⟩ := b_lt hf
  refine z_newa hP (L2 := LS123) (id := 63) (ty := .int) (N := 6) (t0 := 0) rfl rfl (by decide) ac_int (by decide) (by decide) (by decide) (by decide +kernel) hM3 dX3_init_23 rfl rfl ?_
  refine z_putF hP (L2 := LS124) fX3_18 (Or.inr ⟨_, rfl⟩) rfl rfl (rfl : LS123[60]? = some (.inr (3, [none, none, none, none, none, some 61, some 62, none, none, none, none]))) (by decide) rfl dX3_init_25 ?_
  refine x_aload_n hP dX3_init_28 rfl ?_
  refine x_bipush hP dX3_init_29 (v := 6) rfl ?_
  obtain ⟨M4, hM4, hf⟩ := b_lt hf
  refine z_newa hP (L2 := LS125) (id := 64) (ty := .int) (N := 6) (t0 := 0) rfl rfl (by decide) ac_int (by decide) (by decide) (by decide) (by decide +kernel) hM4 dX3_init_31 rfl rfl ?_
  refine z_putF hP (L2 := LS126) fX3_21 (Or.inr ⟨_, rfl⟩) rfl rfl (rfl : LS125[60]? = some (.inr (3, [none, none, none, none, none, some 61, some 62, some 63, none, none, none]))) (by decide) rfl dX3_init_33 ?_
  refine x_aload_n hP dX3_init_36 rfl ?_
  refine x_iconst hP dX3_init_37 (v := 5) rfl ?_
  obtain ⟨M5, hM5, hf⟩ := b_lt hf
  refine z_newa hP (L2 := LS127) (id := 65) (ty := .int) (N := 5) (t0 := 0) rfl rfl (by decide) ac_int (by decide) (by decide) (by decide) (by decide +kernel) hM5 dX3_init_38 rfl rfl ?_
  refine z_putF hP (L2 := LS128) fX3_24 (Or.inr ⟨_, rfl⟩) rfl rfl (rfl : LS127[60]? = some (.inr (3, [none, none, none, none, none, some 61, some 62, some 63, some 64, none, none]))) (by decide) rfl dX3_init_40 ?_
  refine x_aload_n hP dX3_init_43 rfl ?_
  refine x_iconst hP dX3_init_44 (v := 5) rfl ?_
  obtain ⟨M6, hM6, hf⟩ := b_lt hf
  refine z_newa hP (L2 := LS129) (id := 66) (ty := .int) (N := 5) (t0 := 0) rfl rfl (by decide) ac_int (by decide) (by decide) (by decide) (by decide +kernel) hM6 dX3_init_45 rfl rfl ?_
  refine z_putF hP (L2 := LS130) fX3_27 (Or.inr ⟨_, rfl⟩) rfl rfl (rfl : LS129[60]? = some (.inr (3, [none, none, none, none, none, some 61, some 62, some 63, some 64, some 65, none]))) (by decide) rfl dX3_init_47 ?_
  refine x_aload_n hP dX3_init_50 rfl ?_
  refine x_aload_n hP dX3_init_51 rfl ?_
  obtain ⟨M7, hM7, hf⟩ := b_lt hf
  refine z_putM hP fX3_30 (rfl : LS130[60]? = some (.inr (3, [none, none, none, none, none, some 61, some 62, some 63, some 64, some 65, some 66]))) hM7 dX3_init_52 ?_
  cases hf
  exact x_vret hP rfl dX3_init_55
def cf_0 (M : Mem) : Option (Mem) :=
  lt (nM M 1) fun M1 =>
  (cf_1 M1).bind fun M2 =>
  lt (nM M2 11) fun M4 =>
  (cf_11 M4).bind fun M5 =>
  lt (nM M5 21) fun M7 =>
  (cf_21 M7).bind fun M8 =>
  lt (nM M8 23) fun M10 =>
  (cf_23 M10).bind fun M11 =>
  lt (nM M11 31) fun M13 =>
  (cf_31 M13).bind fun M14 =>
  lt (nM M14 34) fun M16 =>
  (cf_34 M16).bind fun M17 =>
  lt (nM M17 45) fun M19 =>
  (cf_45 M19).bind fun M20 =>
  lt (nM M20 48) fun M22 =>
  (cf_48 M22).bind fun M23 =>
  lt (nM M23 53) fun M25 =>
  (cf_53 M25).bind fun M26 =>
  lt (nM M26 57) fun M28 =>
  (cf_57 M28).bind fun M29 =>
  lt (nM M29 60) fun M31 =>
  (cf_60 M31).bind fun M32 =>
  lt (sR M32 0 9 (some 1)) fun M34 =>
  lt (sR M34 0 10 (some 11)) fun M35 =>
  lt (sI M35 0 11 (-1 : Int32)) fun M36 =>
  some M36
set_option maxHeartbeats 4000000 in
set_option maxRecDepth 20000 in
theorem ct_0 {g : GG} {d : Nat} (hd : 8 ≤ d) {M M' : Mem} (hf : cf_0 M = some M') : ExM g d iX11_init [.ref 0] LS1 M (none, LS131, M') := by
  refine ExM.of pnX11 (by show LS1.length ≤ LS131.length; decide +kernel) (by show szL LS1 ≤ szL LS131; decide +kernel) (Nat.le_of_ble_eq_true rfl) ?_
  intro P hP
  have hP : IsW g iX11_init d LS131.length (szL LS131) (some (none, LS131, M')) P := hP
  change P 0 [some (.ref 0), none, none] [] LS1 M
  rw [cf_0] at hf
  refine x_aload_n hP dX11_init_0 rfl ?_
  refine x_objInit hP lX11_1 (Nat.le_of_ble_eq_true rfl) (by omega) dX11_init_1 ?_
  obtain ⟨M1, hM1, hf⟩ := b_lt hf
  refine z_new hP (L2 := LS2) (id := 1) (ci := 9) rfl rfl aX11_7 iX9 zX9 (by decide +kernel) hM1 dX11_init_4 rfl ?_
  refine x_dup hP dX11_init_7 rfl ?_
  obtain ⟨M2, hc3, hf⟩ := b_bd hf
  refine x_callI hP (y := yX9_init) (cc := cX9_init) (nL := 1) (n := 0) kX9_init rfl vX9_init (Or.inl lX11_9) [] rfl rfl (Nat.le_of_ble_eq_true rfl) dX11_init_8 (ct_1 (d := d - 1) (by omega) hc3) (by omega) (by decide +kernel) ?_
  refine x_astore_n hP (ls2 := [some (.ref 0), some (.ref 1), none]) dX11_init_11 rfl rfl rfl ?_
  obtain ⟨M4, hM4, hf⟩ := b_lt hf
  refine z_new hP (L2 := LS21) (id := 11) (ci := 9) rfl rfl aX11_7 iX9 zX9 (by decide +kernel) hM4 dX11_init_12 rfl ?_
  refine x_dup hP dX11_init_15 rfl ?_
  obtain ⟨M5, hc6, hf⟩ := b_bd hf
  refine x_callI hP (y := yX9_init) (cc := cX9_init) (nL := 1) (n := 0) kX9_init rfl vX9_init (Or.inl lX11_9) [] rfl rfl (Nat.le_of_ble_eq_true rfl) dX11_init_16 (ct_11 (d := d - 1) (by omega) hc6) (by omega) (by decide +kernel) ?_
  refine x_astore_n hP (ls2 := [some (.ref 0), some (.ref 1), some (.ref 11)]) dX11_init_19 rfl rfl rfl ?_
  refine x_aload_n hP dX11_init_20 rfl ?_
  obtain ⟨M7, hM7, hf⟩ := b_lt hf
  refine z_new hP (L2 := LS40) (id := 21) (ci := 7) rfl rfl aX11_10 iX7 zX7 (by decide +kernel) hM7 dX11_init_21 rfl ?_
  refine x_dup hP dX11_init_24 rfl ?_
  obtain ⟨M8, hc9, hf⟩ := b_bd hf
  refine x_callI hP (y := yX7_init) (cc := cX7_init) (nL := 1) (n := 0) kX7_init rfl vX7_init (Or.inr ⟨_, nX11_12⟩) [] rfl rfl (Nat.le_of_ble_eq_true rfl) dX11_init_25 (ct_21 (d := d - 1) (by omega) hc9) (by omega) (by decide +kernel) ?_
  refine z_putF hP (L2 := LS43) fX11_13 (Or.inl ⟨_, rfl⟩) rfl rfl (rfl : LS42[0]? = some (.inr (11, [none, none, none, none, none, none, none, none, none, none, none, none]))) (by decide) rfl dX11_init_28 ?_
  refine x_aload_n hP dX11_init_31 rfl ?_
  obtain ⟨M10, hM10, hf⟩ := b_lt hf
  refine z_new hP (L2 := LS44) (id := 23) (ci := 6) rfl rfl aX11_19 iX6 zX6 (by decide +kernel) hM10 dX11_init_32 rfl ?_
  refine x_dup hP dX11_init_35 rfl ?_
  refine x_aload_n hP dX11_init_36 rfl ?_
  obtain ⟨M11, hc12, hf⟩ := b_bd hf
  refine x_callI hP (y := yX6_init) (cc := cX6_init) (nL := 2) (n := 1) kX6_init rfl vX6_init (Or.inl lX11_21) [.ref 11] rfl rfl (Nat.le_of_ble_eq_true rfl) dX11_init_37 (ct_23 (d := d - 1) (by omega) hc12) (by omega) (by decide +kernel) ?_
  refine z_putF hP (L2 := LS59) fX11_24 (Or.inl ⟨_, rfl⟩) rfl rfl (rfl : LS58[0]? = some (.inr (11, [some 21, none, none, none, none, none, none, none, none, none, none, none]))) (by decide) rfl dX11_init_40 ?_
  refine x_aload_n hP dX11_init_43 rfl ?_
  obtain ⟨M13, hM13, hf⟩ := b_lt hf
  refine z_new hP (L2 := LS60) (id := 31) (ci := 2) rfl rfl aX11_28 iX2 zX2 (by decide +kernel) hM13 dX11_init_44 rfl ?_
  refine x_dup hP dX11_init_47 rfl ?_
  obtain ⟨M14, hc15, hf⟩ := b_bd hf
  refine x_callI hP (y := yX2_init) (cc := cX2_init) (nL := 1) (n := 0) kX2_init rfl vX2_init (Or.inr ⟨_, nX11_30⟩) [] rfl rfl (Nat.le_of_ble_eq_true rfl) dX11_init_48 (ct_31 (d := d - 1) (by omega) hc15) (by omega) (by decide +kernel) ?_
  refine z_putF hP (L2 := LS65) fX11_31 (Or.inl ⟨_, rfl⟩) rfl rfl (rfl : LS64[0]? = some (.inr (11, [some 21, some 23, none, none, none, none, none, none, none, none, none, none]))) (by decide) rfl dX11_init_51 ?_
  refine x_aload_n hP dX11_init_54 rfl ?_
  obtain ⟨M16, hM16, hf⟩ := b_lt hf
  refine z_new hP (L2 := LS66) (id := 34) (ci := 0) rfl rfl aX11_35 iX0 zX0 (by decide +kernel) hM16 dX11_init_55 rfl ?_
  refine x_dup hP dX11_init_58 rfl ?_
  refine x_aload_n hP dX11_init_59 rfl ?_
  obtain ⟨M17, hc18, hf⟩ := b_bd hf
  refine x_callI hP (y := yX0_init) (cc := cX0_init) (nL := 2) (n := 1) kX0_init rfl vX0_init (Or.inl lX11_37) [.ref 1] rfl rfl (Nat.le_of_ble_eq_true rfl) dX11_init_60 (ct_34 (d := d - 1) (by omega) hc18) (by omega) (by decide +kernel) ?_
  refine z_putF hP (L2 := LS87) fX11_38 (Or.inl ⟨_, rfl⟩) rfl rfl (rfl : LS86[0]? = some (.inr (11, [some 21, some 23, some 31, none, none, none, none, none, none, none, none, none]))) (by decide) rfl dX11_init_63 ?_
  refine x_aload_n hP dX11_init_66 rfl ?_
  obtain ⟨M19, hM19, hf⟩ := b_lt hf
  refine z_new hP (L2 := LS88) (id := 45) (ci := 10) rfl rfl aX11_42 iX10 zX10 (by decide +kernel) hM19 dX11_init_67 rfl ?_
  refine x_dup hP dX11_init_70 rfl ?_
  obtain ⟨M20, hc21, hf⟩ := b_bd hf
  refine x_callI hP (y := yX10_init) (cc := cX10_init) (nL := 1) (n := 0) kX10_init rfl vX10_init (Or.inr ⟨_, nX11_44⟩) [] rfl rfl (Nat.le_of_ble_eq_true rfl) dX11_init_71 (ct_45 (d := d - 1) (by omega) hc21) (by omega) (by decide +kernel) ?_
  refine z_putF hP (L2 := LS93) fX11_45 (Or.inl ⟨_, rfl⟩) rfl rfl (rfl : LS92[0]? = some (.inr (11, [some 21, some 23, some 31, some 34, none, none, none, none, none, none, none, none]))) (by decide) rfl dX11_init_74 ?_
  refine x_aload_n hP dX11_init_77 rfl ?_
  obtain ⟨M22, hM22, hf⟩ := b_lt hf
  refine z_new hP (L2 := LS94) (id := 48) (ci := 5) rfl rfl aX11_49 iX5 zX5 (by decide +kernel) hM22 dX11_init_78 rfl ?_
  refine x_dup hP dX11_init_81 rfl ?_
  obtain ⟨M23, hc24, hf⟩ := b_bd hf
  refine x_callI hP (y := yX5_init) (cc := cX5_init) (nL := 1) (n := 0) kX5_init rfl vX5_init (Or.inr ⟨_, nX11_51⟩) [] rfl rfl (Nat.le_of_ble_eq_true rfl) dX11_init_82 (ct_48 (d := d - 1) (by omega) hc24) (by omega) (by decide +kernel) ?_
  refine z_putF hP (L2 := LS103) fX11_52 (Or.inl ⟨_, rfl⟩) rfl rfl (rfl : LS102[0]? = some (.inr (11, [some 21, some 23, some 31, some 34, some 45, none, none, none, none, none, none, none]))) (by decide) rfl dX11_init_85 ?_
  refine x_aload_n hP dX11_init_88 rfl ?_
  obtain ⟨M25, hM25, hf⟩ := b_lt hf
  refine z_new hP (L2 := LS104) (id := 53) (ci := 1) rfl rfl aX11_56 iX1 zX1 (by decide +kernel) hM25 dX11_init_89 rfl ?_
  refine x_dup hP dX11_init_92 rfl ?_
  obtain ⟨M26, hc27, hf⟩ := b_bd hf
  refine x_callI hP (y := yX1_init) (cc := cX1_init) (nL := 1) (n := 0) kX1_init rfl vX1_init (Or.inr ⟨_, nX11_58⟩) [] rfl rfl (Nat.le_of_ble_eq_true rfl) dX11_init_93 (ct_53 (d := d - 1) (by omega) hc27) (by omega) (by decide +kernel) ?_
  refine z_putF hP (L2 := LS111) fX11_59 (Or.inl ⟨_, rfl⟩) rfl rfl (rfl : LS110[0]? = some (.inr (11, [some 21, some 23, some 31, some 34, some 45, some 48, none, none, none, none, none, none]))) (by decide) rfl dX11_init_96 ?_
  refine x_aload_n hP dX11_init_99 rfl ?_
  obtain ⟨M28, hM28, hf⟩ := b_lt hf
  refine z_new hP (L2 := LS112) (id := 57) (ci := 4) rfl rfl aX11_63 iX4 zX4 (by decide +kernel) hM28 dX11_init_100 rfl ?_
  refine x_dup hP dX11_init_103 rfl ?_
  obtain ⟨M29, hc30, hf⟩ := b_bd hf
  refine x_callI hP (y := yX4_init) (cc := cX4_init) (nL := 1) (n := 0) kX4_init rfl vX4_init (Or.inr ⟨_, nX11_65⟩) [] rfl rfl (Nat.le_of_ble_eq_true rfl) dX11_init_104 (ct_57 (d := d - 1) (by omega) hc30) (by omega) (by decide +kernel) ?_
  refine z_putF hP (L2 := LS117) fX11_66 (Or.inl ⟨_, rfl⟩) rfl rfl (rfl : LS116[0]? = some (.inr (11, [some 21, some 23, some 31, some 34, some 45, some 48, some 53, none, none, none, none, none]))) (by decide) rfl dX11_init_107 ?_
  refine x_aload_n hP dX11_init_110 rfl ?_
  obtain ⟨M31, hM31, hf⟩ := b_lt hf
  refine z_new hP (L2 := LS118) (id := 60) (ci := 3) rfl rfl aX11_70 iX3 zX3 (by decide +kernel) hM31 dX11_init_111 rfl ?_
  refine x_dup hP dX11_init_114 rfl ?_
  refine x_aload_n hP dX11_init_115 rfl ?_
  obtain ⟨M32, hc33, hf⟩ := b_bd hf
  refine x_callI hP (y := yX3_init) (cc := cX3_init) (nL := 2) (n := 1) kX3_init rfl vX3_init (Or.inl lX11_72) [.ref 1] rfl rfl (Nat.le_of_ble_eq_true rfl) dX11_init_116 (ct_60 (d := d - 1) (by omega) hc33) (by omega) (by decide +kernel) ?_
  refine z_putF hP (L2 := LS131) fX11_73 (Or.inl ⟨_, rfl⟩) rfl rfl (rfl : LS130[0]? = some (.inr (11, [some 21, some 23, some 31, some 34, some 45, some 48, some 53, some 57, none, none, none, none]))) (by decide) rfl dX11_init_119 ?_
  refine x_aload_n hP dX11_init_122 rfl ?_
  refine x_aload_n hP dX11_init_123 rfl ?_
  obtain ⟨M34, hM34, hf⟩ := b_lt hf
  refine z_putM hP fX11_77 (rfl : LS131[0]? = some (.inr (11, [some 21, some 23, some 31, some 34, some 45, some 48, some 53, some 57, some 60, none, none, none]))) hM34 dX11_init_124 ?_
  refine x_aload_n hP dX11_init_127 rfl ?_
  refine x_aload_n hP dX11_init_128 rfl ?_
  obtain ⟨M35, hM35, hf⟩ := b_lt hf
  refine z_putM hP fX11_81 (rfl : LS131[0]? = some (.inr (11, [some 21, some 23, some 31, some 34, some 45, some 48, some 53, some 57, some 60, none, none, none]))) hM35 dX11_init_129 ?_
  refine x_aload_n hP dX11_init_132 rfl ?_
  refine x_iconst hP dX11_init_133 (v := (-1)) rfl ?_
  obtain ⟨M36, hM36, hf⟩ := b_lt hf
  refine z_putI hP fX11_84 (rfl : LS131[0]? = some (.inr (11, [some 21, some 23, some 31, some 34, some 45, some 48, some 53, some 57, some 60, none, none, none]))) hM36 dX11_init_134 ?_
  cases hf
  exact x_vret hP rfl dX11_init_137
theorem hA232_67 : ∀ (id : Nat) (y : Lay), LAY[id]? = some y → 67 ≤ id ∧ id < 118 → LS232[id]? = some y := by
  intro id y h hr
  rw [← h]
  exact agree_of (lo := 67) (hi := 118) (by decide +kernel) hr
def cf_67 (M : Mem) : Option (Mem) :=
  lt (nM M 68) fun M1 =>
  lt (nM M1 69) fun M2 =>
  lt (nM M2 70) fun M3 =>
  lt (nM M3 71) fun M4 =>
  lt (nM M4 72) fun M5 =>
  lt (nM M5 73) fun M6 =>
  lt (nM M6 74) fun M7 =>
  lt (sI M7 67 17 (-1 : Int32)) fun M8 =>
  lt (nM M8 75) fun M9 =>
  lt (nM M9 76) fun M10 =>
  lt (nM M10 77) fun M11 =>
  lt (nM M11 78) fun M12 =>
  lt (nM M12 79) fun M13 =>
  lt (nM M13 80) fun M14 =>
  lt (nM M14 81) fun M15 =>
  lt (nM M15 82) fun M16 =>
  lt (nM M16 83) fun M17 =>
  lt (nM M17 84) fun M18 =>
  lt (nM M18 85) fun M19 =>
  lt (nM M19 86) fun M20 =>
  lt (nM M20 87) fun M21 =>
  lt (nM M21 88) fun M22 =>
  lt (nM M22 89) fun M23 =>
  lt (nM M23 90) fun M24 =>
  lt (nM M24 91) fun M25 =>
  lt (nM M25 92) fun M26 =>
  lt (nM M26 93) fun M27 =>
  lt (nM M27 94) fun M28 =>
  lt (nM M28 95) fun M29 =>
  lt (nM M29 96) fun M30 =>
  lt (nM M30 97) fun M31 =>
  lt (nM M31 98) fun M32 =>
  lt (nM M32 99) fun M33 =>
  lt (nM M33 100) fun M34 =>
  lt (nM M34 101) fun M35 =>
  lt (nM M35 102) fun M36 =>
  lt (nM M36 103) fun M37 =>
  lt (nM M37 104) fun M38 =>
  lt (nM M38 105) fun M39 =>
  lt (nM M39 106) fun M40 =>
  lt (nM M40 107) fun M41 =>
  lt (nM M41 108) fun M42 =>
  lt (nM M42 109) fun M43 =>
  lt (nM M43 110) fun M44 =>
  lt (nM M44 111) fun M45 =>
  lt (nM M45 112) fun M46 =>
  lt (nM M46 113) fun M47 =>
  lt (nM M47 114) fun M48 =>
  lt (nM M48 115) fun M49 =>
  lt (nM M49 116) fun M50 =>
  lt (nM M50 117) fun M51 =>
  (f_X12_plain (0 : Int32) M51).bind fun M52 =>
  (f_X12_plain (1 : Int32) M52).bind fun M54 =>
  (f_X12_word (99 : Int32) (111 : Int32) (114 : Int32) (110 : Int32) (101 : Int32) (114 : Int32) (0 : Int32)).bind fun v56 =>
  lt (sJ M54 74 0 v56) fun M58 =>
  (f_X12_word (115 : Int32) (116 : Int32) (114 : Int32) (101 : Int32) (101 : Int32) (116 : Int32) (0 : Int32)).bind fun v59 =>
  lt (sJ M58 74 1 v59) fun M61 =>
  (f_X12_word (121 : Int32) (111 : Int32) (117 : Int32) (110 : Int32) (103 : Int32) (0 : Int32) (0 : Int32)).bind fun v62 =>
  lt (sJ M61 74 2 v62) fun M64 =>
  (f_X12_word (119 : Int32) (111 : Int32) (114 : Int32) (100 : Int32) (0 : Int32) (0 : Int32) (0 : Int32)).bind fun v65 =>
  lt (sJ M64 74 3 v65) fun M67 =>
  (f_X12_word (108 : Int32) (105 : Int32) (103 : Int32) (104 : Int32) (116 : Int32) (101 : Int32) (114 : Int32)).bind fun v68 =>
  lt (sJ M67 74 4 v68) fun M70 =>
  (f_X12_word (103 : Int32) (108 : Int32) (111 : Int32) (119 : Int32) (115 : Int32) (0 : Int32) (0 : Int32)).bind fun v71 =>
  lt (sJ M70 74 5 v71) fun M73 =>
  (f_X12_word (119 : Int32) (101 : Int32) (97 : Int32) (114 : Int32) (115 : Int32) (0 : Int32) (0 : Int32)).bind fun v74 =>
  lt (sJ M73 74 6 v74) fun M76 =>
  (f_X12_word (99 : Int32) (111 : Int32) (111 : Int32) (108 : Int32) (115 : Int32) (0 : Int32) (0 : Int32)).bind fun v77 =>
  lt (sJ M76 74 7 v77) fun M79 =>
  (f_X12_word (108 : Int32) (101 : Int32) (97 : Int32) (118 : Int32) (101 : Int32) (115 : Int32) (0 : Int32)).bind fun v80 =>
  lt (sJ M79 74 8 v80) fun M82 =>
  (f_X12_word (100 : Int32) (114 : Int32) (97 : Int32) (117 : Int32) (103 : Int32) (104 : Int32) (116 : Int32)).bind fun v83 =>
  lt (sJ M82 74 9 v83) fun M85 =>
  (f_X12_word (115 : Int32) (101 : Int32) (101 : Int32) (100 : Int32) (0 : Int32) (0 : Int32) (0 : Int32)).bind fun v86 =>
  lt (sJ M85 74 10 v86) fun M88 =>
  (f_X12_word (105 : Int32) (102 : Int32) (0 : Int32) (0 : Int32) (0 : Int32) (0 : Int32) (0 : Int32)).bind fun v89 =>
  lt (sJ M88 74 11 v89) fun M91 =>
  (f_X12_word (116 : Int32) (104 : Int32) (101 : Int32) (110 : Int32) (0 : Int32) (0 : Int32) (0 : Int32)).bind fun v92 =>
  lt (sJ M91 74 12 v92) fun M94 =>
  (f_X12_word (101 : Int32) (108 : Int32) (115 : Int32) (101 : Int32) (0 : Int32) (0 : Int32) (0 : Int32)).bind fun v95 =>
  lt (sJ M94 74 13 v95) fun M97 =>
  (f_X12_word (104 : Int32) (101 : Int32) (97 : Int32) (116 : Int32) (0 : Int32) (0 : Int32) (0 : Int32)).bind fun v98 =>
  lt (sJ M97 74 14 v98) fun M100 =>
  (f_X12_word (97 : Int32) (103 : Int32) (101 : Int32) (0 : Int32) (0 : Int32) (0 : Int32) (0 : Int32)).bind fun v101 =>
  lt (sJ M100 74 15 v101) fun M103 =>
  (f_X12_word (116 : Int32) (101 : Int32) (109 : Int32) (112 : Int32) (101 : Int32) (114 : Int32) (0 : Int32)).bind fun v104 =>
  lt (sJ M103 74 16 v104) fun M106 =>
  (f_X12_word (119 : Int32) (111 : Int32) (114 : Int32) (110 : Int32) (0 : Int32) (0 : Int32) (0 : Int32)).bind fun v107 =>
  lt (sJ M106 74 17 v107) fun M109 =>
  (f_X12_word (115 : Int32) (105 : Int32) (110 : Int32) (99 : Int32) (101 : Int32) (0 : Int32) (0 : Int32)).bind fun v110 =>
  lt (sJ M109 74 18 v110) fun M112 =>
  (f_X12_word (104 : Int32) (111 : Int32) (117 : Int32) (114 : Int32) (0 : Int32) (0 : Int32) (0 : Int32)).bind fun v113 =>
  lt (sJ M112 74 19 v113) fun M115 =>
  (f_X12_word (103 : Int32) (108 : Int32) (111 : Int32) (119 : Int32) (0 : Int32) (0 : Int32) (0 : Int32)).bind fun v116 =>
  lt (sJ M115 74 20 v116) fun M118 =>
  (f_X12_word (119 : Int32) (104 : Int32) (105 : Int32) (99 : Int32) (104 : Int32) (0 : Int32) (0 : Int32)).bind fun v119 =>
  lt (sJ M118 74 21 v119) fun M121 =>
  (f_X12_word (116 : Int32) (111 : Int32) (108 : Int32) (100 : Int32) (0 : Int32) (0 : Int32) (0 : Int32)).bind fun v122 =>
  lt (sJ M121 74 22 v122) fun M124 =>
  (f_X12_begins M124).bind fun M125 =>
  (f_X12_keepsRow M125).bind fun M127 =>
  some M127
set_option maxHeartbeats 4000000 in
set_option maxRecDepth 20000 in
theorem ct_67 {g : GG} {d : Nat} (hd : 3 ≤ d) {M M' : Mem} (hf : cf_67 M = some M') : ExM g d iX12_init [.ref 67] LS132 M (none, LS232, M') := by
  refine ExM.of pnX12 (by show LS132.length ≤ LS232.length; decide +kernel) (by show szL LS132 ≤ szL LS232; decide +kernel) (Nat.le_of_ble_eq_true rfl) ?_
  intro P hP
  have hP : IsW g iX12_init d LS232.length (szL LS232) (some (none, LS232, M')) P := hP
  change P 0 [some (.ref 67)] [] LS132 M
  rw [cf_67] at hf
  refine x_aload_n hP dX12_init_0 rfl ?_
  refine x_objInit hP lX12_7 (Nat.le_of_ble_eq_true rfl) (by omega) dX12_init_1 ?_
  refine x_aload_n hP dX12_init_4 rfl ?_
  refine x_sipush hP dX12_init_5 (v := 2000) rfl ?_
  obtain ⟨M1, hM1, hf⟩ := b_lt hf
  refine z_newa hP (L2 := LS133) (id := 68) (ty := .byte) (N := 2000) (t0 := 2) rfl rfl (by decide) ac_byte (by decide) (by decide) (by decide) (by decide +kernel) hM1 dX12_init_8 rfl rfl ?_
  refine z_putF hP (L2 := LS134) fX12_13 (Or.inr ⟨_, rfl⟩) rfl rfl (rfl : LS133[67]? = some (.inr (12, [none, none, none, none, none, none, none, none, none, none, none, none, none, none, none, none, none, none, none, none, none, none, none, none, none, none, none, none, none, none, none, none, none, none, none, none, none, none, none, none, none, none, none, none, none, none, none, none, none, none, none, none, none, none, none, none, none, none, none, none, none, none, none, none, none, none, none, none, none, none, none, none]))) (by decide) rfl dX12_init_10 ?_
  refine x_aload_n hP dX12_init_13 rfl ?_
  refine x_sipush hP dX12_init_14 (v := 2000) rfl ?_
  obtain ⟨M2, hM2, hf⟩ := b_lt hf
  refine z_newa hP (L2 := LS135) (id := 69) (ty := .byte) (N := 2000) (t0 := 2) rfl rfl (by decide) ac_byte (by decide) (by decide) (by decide) (by decide +kernel) hM2 dX12_init_17 rfl rfl ?_
  refine z_putF hP (L2 := LS136) fX12_17 (Or.inr ⟨_, rfl⟩) rfl rfl (rfl : LS135[67]? = some (.inr (12, [none, some 68, none, none, none, none, none, none, none, none, none, none, none, none, none, none, none, none, none, none, none, none, none, none, none, none, none, none, none, none, none, none, none, none, none, none, none, none, none, none, none, none, none, none, none, none, none, none, none, none, none, none, none, none, none, none, none, none, none, none, none, none, none, none, none, none, none, none, none, none, none, none]))) (by decide) rfl dX12_init_19 ?_
  refine x_aload_n hP dX12_init_22 rfl ?_
  refine x_sipush hP dX12_init_23 (v := 403) rfl ?_
  obtain ⟨M3, hM3, hf⟩ := b_lt hf
  refine z_newa hP (L2 := LS137) (id := 70) (ty := .int) (N := 403) (t0 := 0) rfl rfl (by decide) ac_int (by decide) (by decide) (by decide) (by decide +kernel) hM3 dX12_init_26 rfl rfl ?_
  refine z_putF hP (L2 := LS138) fX12_20 (Or.inr ⟨_, rfl⟩) rfl rfl (rfl : LS137[67]? = some (.inr (12, [none, some 68, none, some 69, none, none, none, none, none, none, none, none, none, none, none, none, none, none, none, none, none, none, none, none, none, none, none, none, none, none, none, none, none, none, none, none, none, none, none, none, none, none, none, none, none, none, none, none, none, none, none, none, none, none, none, none, none, none, none, none, none, none, none, none, none, none, none, none, none, none, none, none]))) (by decide) rfl dX12_init_28 ?_
  refine x_aload_n hP dX12_init_31 rfl ?_
  refine x_sipush hP dX12_init_32 (v := 403) rfl ?_
  obtain ⟨M4, hM4, hf⟩ := b_lt hf
  refine z_newa hP (L2 := LS139) (id := 71) (ty := .int) (N := 403) (t0 := 0) rfl rfl (by decide) ac_int (by decide) (by decide) (by decide) (by decide +kernel) hM4 dX12_init_35 rfl rfl ?_
  refine z_putF hP (L2 := LS140) fX12_24 (Or.inr ⟨_, rfl⟩) rfl rfl (rfl : LS139[67]? = some (.inr (12, [none, some 68, none, some 69, none, some 70, none, none, none, none, none, none, none, none, none, none, none, none, none, none, none, none, none, none, none, none, none, none, none, none, none, none, none, none, none, none, none, none, none, none, none, none, none, none, none, none, none, none, none, none, none, none, none, none, none, none, none, none, none, none, none, none, none, none, none, none, none, none, none, none, none, none]))) (by decide) rfl dX12_init_37 ?_
  refine x_aload_n hP dX12_init_40 rfl ?_
  refine x_sipush hP dX12_init_41 (v := 403) rfl ?_
  obtain ⟨M5, hM5, hf⟩ := b_lt hf
  refine z_newa hP (L2 := LS141) (id := 72) (ty := .int) (N := 403) (t0 := 0) rfl rfl (by decide) ac_int (by decide) (by decide) (by decide) (by decide +kernel) hM5 dX12_init_44 rfl rfl ?_
  refine z_putF hP (L2 := LS142) fX12_27 (Or.inr ⟨_, rfl⟩) rfl rfl (rfl : LS141[67]? = some (.inr (12, [none, some 68, none, some 69, none, some 70, some 71, none, none, none, none, none, none, none, none, none, none, none, none, none, none, none, none, none, none, none, none, none, none, none, none, none, none, none, none, none, none, none, none, none, none, none, none, none, none, none, none, none, none, none, none, none, none, none, none, none, none, none, none, none, none, none, none, none, none, none, none, none, none, none, none, none]))) (by decide) rfl dX12_init_46 ?_
  refine x_aload_n hP dX12_init_49 rfl ?_
  refine x_sipush hP dX12_init_50 (v := 403) rfl ?_
  obtain ⟨M6, hM6, hf⟩ := b_lt hf
  refine z_newa hP (L2 := LS143) (id := 73) (ty := .long) (N := 403) (t0 := 1) rfl rfl (by decide) ac_long (by decide) (by decide) (by decide) (by decide +kernel) hM6 dX12_init_53 rfl rfl ?_
  refine z_putF hP (L2 := LS144) fX12_30 (Or.inr ⟨_, rfl⟩) rfl rfl (rfl : LS143[67]? = some (.inr (12, [none, some 68, none, some 69, none, some 70, some 71, some 72, none, none, none, none, none, none, none, none, none, none, none, none, none, none, none, none, none, none, none, none, none, none, none, none, none, none, none, none, none, none, none, none, none, none, none, none, none, none, none, none, none, none, none, none, none, none, none, none, none, none, none, none, none, none, none, none, none, none, none, none, none, none, none, none]))) (by decide) rfl dX12_init_55 ?_
  refine x_aload_n hP dX12_init_58 rfl ?_
  refine x_bipush hP dX12_init_59 (v := 23) rfl ?_
  obtain ⟨M7, hM7, hf⟩ := b_lt hf
  refine z_newa hP (L2 := LS145) (id := 74) (ty := .long) (N := 23) (t0 := 1) rfl rfl (by decide) ac_long (by decide) (by decide) (by decide) (by decide +kernel) hM7 dX12_init_61 rfl rfl ?_
  refine z_putF hP (L2 := LS146) fX12_34 (Or.inr ⟨_, rfl⟩) rfl rfl (rfl : LS145[67]? = some (.inr (12, [none, some 68, none, some 69, none, some 70, some 71, some 72, some 73, none, none, none, none, none, none, none, none, none, none, none, none, none, none, none, none, none, none, none, none, none, none, none, none, none, none, none, none, none, none, none, none, none, none, none, none, none, none, none, none, none, none, none, none, none, none, none, none, none, none, none, none, none, none, none, none, none, none, none, none, none, none, none]))) (by decide) rfl dX12_init_63 ?_
  refine x_aload_n hP dX12_init_66 rfl ?_
  refine x_iconst hP dX12_init_67 (v := (-1)) rfl ?_
  obtain ⟨M8, hM8, hf⟩ := b_lt hf
  refine z_putI hP fX12_37 (rfl : LS146[67]? = some (.inr (12, [none, some 68, none, some 69, none, some 70, some 71, some 72, some 73, some 74, none, none, none, none, none, none, none, none, none, none, none, none, none, none, none, none, none, none, none, none, none, none, none, none, none, none, none, none, none, none, none, none, none, none, none, none, none, none, none, none, none, none, none, none, none, none, none, none, none, none, none, none, none, none, none, none, none, none, none, none, none, none]))) hM8 dX12_init_68 ?_
  refine x_aload_n hP dX12_init_71 rfl ?_
  refine x_bipush hP dX12_init_72 (v := 18) rfl ?_
  obtain ⟨M9, hM9, hf⟩ := b_lt hf
  refine z_newa hP (L2 := LS147) (id := 75) (ty := .long) (N := 18) (t0 := 1) rfl rfl (by decide) ac_long (by decide) (by decide) (by decide) (by decide +kernel) hM9 dX12_init_74 rfl rfl ?_
  refine z_putF hP (L2 := LS148) fX12_40 (Or.inr ⟨_, rfl⟩) rfl rfl (rfl : LS147[67]? = some (.inr (12, [none, some 68, none, some 69, none, some 70, some 71, some 72, some 73, some 74, none, none, none, none, none, none, none, none, none, none, none, none, none, none, none, none, none, none, none, none, none, none, none, none, none, none, none, none, none, none, none, none, none, none, none, none, none, none, none, none, none, none, none, none, none, none, none, none, none, none, none, none, none, none, none, none, none, none, none, none, none, none]))) (by decide) rfl dX12_init_76 ?_
  refine x_aload_n hP dX12_init_79 rfl ?_
  refine x_bipush hP dX12_init_80 (v := 18) rfl ?_
  obtain ⟨M10, hM10, hf⟩ := b_lt hf
  refine z_newa hP (L2 := LS149) (id := 76) (ty := .int) (N := 18) (t0 := 0) rfl rfl (by decide) ac_int (by decide) (by decide) (by decide) (by decide +kernel) hM10 dX12_init_82 rfl rfl ?_
  refine z_putF hP (L2 := LS150) fX12_43 (Or.inr ⟨_, rfl⟩) rfl rfl (rfl : LS149[67]? = some (.inr (12, [none, some 68, none, some 69, none, some 70, some 71, some 72, some 73, some 74, none, none, none, none, none, none, none, none, none, none, none, some 75, none, none, none, none, none, none, none, none, none, none, none, none, none, none, none, none, none, none, none, none, none, none, none, none, none, none, none, none, none, none, none, none, none, none, none, none, none, none, none, none, none, none, none, none, none, none, none, none, none, none]))) (by decide) rfl dX12_init_84 ?_
  refine x_aload_n hP dX12_init_87 rfl ?_
  refine x_iconst hP dX12_init_88 (v := 2) rfl ?_
  obtain ⟨M11, hM11, hf⟩ := b_lt hf
  refine z_newa hP (L2 := LS151) (id := 77) (ty := .int) (N := 2) (t0 := 0) rfl rfl (by decide) ac_int (by decide) (by decide) (by decide) (by decide +kernel) hM11 dX12_init_89 rfl rfl ?_
  refine z_putF hP (L2 := LS152) fX12_46 (Or.inr ⟨_, rfl⟩) rfl rfl (rfl : LS151[67]? = some (.inr (12, [none, some 68, none, some 69, none, some 70, some 71, some 72, some 73, some 74, none, none, none, none, none, none, none, none, none, none, none, some 75, some 76, none, none, none, none, none, none, none, none, none, none, none, none, none, none, none, none, none, none, none, none, none, none, none, none, none, none, none, none, none, none, none, none, none, none, none, none, none, none, none, none, none, none, none, none, none, none, none, none, none]))) (by decide) rfl dX12_init_91 ?_
  refine x_aload_n hP dX12_init_94 rfl ?_
  refine x_iconst hP dX12_init_95 (v := 2) rfl ?_
  obtain ⟨M12, hM12, hf⟩ := b_lt hf
  refine z_newa hP (L2 := LS153) (id := 78) (ty := .int) (N := 2) (t0 := 0) rfl rfl (by decide) ac_int (by decide) (by decide) (by decide) (by decide +kernel) hM12 dX12_init_96 rfl rfl ?_
  refine z_putF hP (L2 := LS154) fX12_49 (Or.inr ⟨_, rfl⟩) rfl rfl (rfl : LS153[67]? = some (.inr (12, [none, some 68, none, some 69, none, some 70, some 71, some 72, some 73, some 74, none, none, none, none, none, none, none, none, none, none, none, some 75, some 76, some 77, none, none, none, none, none, none, none, none, none, none, none, none, none, none, none, none, none, none, none, none, none, none, none, none, none, none, none, none, none, none, none, none, none, none, none, none, none, none, none, none, none, none, none, none, none, none, none, none]))) (by decide) rfl dX12_init_98 ?_
  refine x_aload_n hP dX12_init_101 rfl ?_
  refine x_bipush hP dX12_init_102 (v := 20) rfl ?_
  obtain ⟨M13, hM13, hf⟩ := b_lt hf
  refine z_newa hP (L2 := LS155) (id := 79) (ty := .int) (N := 20) (t0 := 0) rfl rfl (by decide) ac_int (by decide) (by decide) (by decide) (by decide +kernel) hM13 dX12_init_104 rfl rfl ?_
  refine z_putF hP (L2 := LS156) fX12_52 (Or.inr ⟨_, rfl⟩) rfl rfl (rfl : LS155[67]? = some (.inr (12, [none, some 68, none, some 69, none, some 70, some 71, some 72, some 73, some 74, none, none, none, none, none, none, none, none, none, none, none, some 75, some 76, some 77, some 78, none, none, none, none, none, none, none, none, none, none, none, none, none, none, none, none, none, none, none, none, none, none, none, none, none, none, none, none, none, none, none, none, none, none, none, none, none, none, none, none, none, none, none, none, none, none, none]))) (by decide) rfl dX12_init_106 ?_
  refine x_aload_n hP dX12_init_109 rfl ?_
  refine x_bipush hP dX12_init_110 (v := 20) rfl ?_
  obtain ⟨M14, hM14, hf⟩ := b_lt hf
  refine z_newa hP (L2 := LS157) (id := 80) (ty := .int) (N := 20) (t0 := 0) rfl rfl (by decide) ac_int (by decide) (by decide) (by decide) (by decide +kernel) hM14 dX12_init_112 rfl rfl ?_
  refine z_putF hP (L2 := LS158) fX12_55 (Or.inr ⟨_, rfl⟩) rfl rfl (rfl : LS157[67]? = some (.inr (12, [none, some 68, none, some 69, none, some 70, some 71, some 72, some 73, some 74, none, none, none, none, none, none, none, none, none, none, none, some 75, some 76, some 77, some 78, some 79, none, none, none, none, none, none, none, none, none, none, none, none, none, none, none, none, none, none, none, none, none, none, none, none, none, none, none, none, none, none, none, none, none, none, none, none, none, none, none, none, none, none, none, none, none, none]))) (by decide) rfl dX12_init_114 ?_
  refine x_aload_n hP dX12_init_117 rfl ?_
  refine x_bipush hP dX12_init_118 (v := 20) rfl ?_
  obtain ⟨M15, hM15, hf⟩ := b_lt hf
  refine z_newa hP (L2 := LS159) (id := 81) (ty := .int) (N := 20) (t0 := 0) rfl rfl (by decide) ac_int (by decide) (by decide) (by decide) (by decide +kernel) hM15 dX12_init_120 rfl rfl ?_
  refine z_putF hP (L2 := LS160) fX12_58 (Or.inr ⟨_, rfl⟩) rfl rfl (rfl : LS159[67]? = some (.inr (12, [none, some 68, none, some 69, none, some 70, some 71, some 72, some 73, some 74, none, none, none, none, none, none, none, none, none, none, none, some 75, some 76, some 77, some 78, some 79, some 80, none, none, none, none, none, none, none, none, none, none, none, none, none, none, none, none, none, none, none, none, none, none, none, none, none, none, none, none, none, none, none, none, none, none, none, none, none, none, none, none, none, none, none, none, none]))) (by decide) rfl dX12_init_122 ?_
  refine x_aload_n hP dX12_init_125 rfl ?_
  refine x_iconst hP dX12_init_126 (v := 2) rfl ?_
  obtain ⟨M16, hM16, hf⟩ := b_lt hf
  refine z_newa hP (L2 := LS161) (id := 82) (ty := .int) (N := 2) (t0 := 0) rfl rfl (by decide) ac_int (by decide) (by decide) (by decide) (by decide +kernel) hM16 dX12_init_127 rfl rfl ?_
  refine z_putF hP (L2 := LS162) fX12_61 (Or.inr ⟨_, rfl⟩) rfl rfl (rfl : LS161[67]? = some (.inr (12, [none, some 68, none, some 69, none, some 70, some 71, some 72, some 73, some 74, none, none, none, none, none, none, none, none, none, none, none, some 75, some 76, some 77, some 78, some 79, some 80, some 81, none, none, none, none, none, none, none, none, none, none, none, none, none, none, none, none, none, none, none, none, none, none, none, none, none, none, none, none, none, none, none, none, none, none, none, none, none, none, none, none, none, none, none, none]))) (by decide) rfl dX12_init_129 ?_
  refine x_aload_n hP dX12_init_132 rfl ?_
  refine x_bipush hP dX12_init_133 (v := 12) rfl ?_
  obtain ⟨M17, hM17, hf⟩ := b_lt hf
  refine z_newa hP (L2 := LS163) (id := 83) (ty := .int) (N := 12) (t0 := 0) rfl rfl (by decide) ac_int (by decide) (by decide) (by decide) (by decide +kernel) hM17 dX12_init_135 rfl rfl ?_
  refine z_putF hP (L2 := LS164) fX12_64 (Or.inr ⟨_, rfl⟩) rfl rfl (rfl : LS163[67]? = some (.inr (12, [none, some 68, none, some 69, none, some 70, some 71, some 72, some 73, some 74, none, none, none, none, none, none, none, none, none, none, none, some 75, some 76, some 77, some 78, some 79, some 80, some 81, some 82, none, none, none, none, none, none, none, none, none, none, none, none, none, none, none, none, none, none, none, none, none, none, none, none, none, none, none, none, none, none, none, none, none, none, none, none, none, none, none, none, none, none, none]))) (by decide) rfl dX12_init_137 ?_
  refine x_aload_n hP dX12_init_140 rfl ?_
  refine x_bipush hP dX12_init_141 (v := 12) rfl ?_
  obtain ⟨M18, hM18, hf⟩ := b_lt hf
  refine z_newa hP (L2 := LS165) (id := 84) (ty := .int) (N := 12) (t0 := 0) rfl rfl (by decide) ac_int (by decide) (by decide) (by decide) (by decide +kernel) hM18 dX12_init_143 rfl rfl ?_
  refine z_putF hP (L2 := LS166) fX12_67 (Or.inr ⟨_, rfl⟩) rfl rfl (rfl : LS165[67]? = some (.inr (12, [none, some 68, none, some 69, none, some 70, some 71, some 72, some 73, some 74, none, none, none, none, none, none, none, none, none, none, none, some 75, some 76, some 77, some 78, some 79, some 80, some 81, some 82, some 83, none, none, none, none, none, none, none, none, none, none, none, none, none, none, none, none, none, none, none, none, none, none, none, none, none, none, none, none, none, none, none, none, none, none, none, none, none, none, none, none, none, none]))) (by decide) rfl dX12_init_145 ?_
  refine x_aload_n hP dX12_init_148 rfl ?_
  refine x_bipush hP dX12_init_149 (v := 12) rfl ?_
  obtain ⟨M19, hM19, hf⟩ := b_lt hf
  refine z_newa hP (L2 := LS167) (id := 85) (ty := .int) (N := 12) (t0 := 0) rfl rfl (by decide) ac_int (by decide) (by decide) (by decide) (by decide +kernel) hM19 dX12_init_151 rfl rfl ?_
  refine z_putF hP (L2 := LS168) fX12_70 (Or.inr ⟨_, rfl⟩) rfl rfl (rfl : LS167[67]? = some (.inr (12, [none, some 68, none, some 69, none, some 70, some 71, some 72, some 73, some 74, none, none, none, none, none, none, none, none, none, none, none, some 75, some 76, some 77, some 78, some 79, some 80, some 81, some 82, some 83, some 84, none, none, none, none, none, none, none, none, none, none, none, none, none, none, none, none, none, none, none, none, none, none, none, none, none, none, none, none, none, none, none, none, none, none, none, none, none, none, none, none, none]))) (by decide) rfl dX12_init_153 ?_
  refine x_aload_n hP dX12_init_156 rfl ?_
  refine x_iconst hP dX12_init_157 (v := 2) rfl ?_
  obtain ⟨M20, hM20, hf⟩ := b_lt hf
  refine z_newa hP (L2 := LS169) (id := 86) (ty := .int) (N := 2) (t0 := 0) rfl rfl (by decide) ac_int (by decide) (by decide) (by decide) (by decide +kernel) hM20 dX12_init_158 rfl rfl ?_
  refine z_putF hP (L2 := LS170) fX12_73 (Or.inr ⟨_, rfl⟩) rfl rfl (rfl : LS169[67]? = some (.inr (12, [none, some 68, none, some 69, none, some 70, some 71, some 72, some 73, some 74, none, none, none, none, none, none, none, none, none, none, none, some 75, some 76, some 77, some 78, some 79, some 80, some 81, some 82, some 83, some 84, some 85, none, none, none, none, none, none, none, none, none, none, none, none, none, none, none, none, none, none, none, none, none, none, none, none, none, none, none, none, none, none, none, none, none, none, none, none, none, none, none, none]))) (by decide) rfl dX12_init_160 ?_
  refine x_aload_n hP dX12_init_163 rfl ?_
  refine x_bipush hP dX12_init_164 (v := 10) rfl ?_
  obtain ⟨M21, hM21, hf⟩ := b_lt hf
  refine z_newa hP (L2 := LS171) (id := 87) (ty := .int) (N := 10) (t0 := 0) rfl rfl (by decide) ac_int (by decide) (by decide) (by decide) (by decide +kernel) hM21 dX12_init_166 rfl rfl ?_
  refine z_putF hP (L2 := LS172) fX12_76 (Or.inr ⟨_, rfl⟩) rfl rfl (rfl : LS171[67]? = some (.inr (12, [none, some 68, none, some 69, none, some 70, some 71, some 72, some 73, some 74, none, none, none, none, none, none, none, none, none, none, none, some 75, some 76, some 77, some 78, some 79, some 80, some 81, some 82, some 83, some 84, some 85, some 86, none, none, none, none, none, none, none, none, none, none, none, none, none, none, none, none, none, none, none, none, none, none, none, none, none, none, none, none, none, none, none, none, none, none, none, none, none, none, none]))) (by decide) rfl dX12_init_168 ?_
  refine x_aload_n hP dX12_init_171 rfl ?_
  refine x_iconst hP dX12_init_172 (v := 2) rfl ?_
  obtain ⟨M22, hM22, hf⟩ := b_lt hf
  refine z_newa hP (L2 := LS173) (id := 88) (ty := .int) (N := 2) (t0 := 0) rfl rfl (by decide) ac_int (by decide) (by decide) (by decide) (by decide +kernel) hM22 dX12_init_173 rfl rfl ?_
  refine z_putF hP (L2 := LS174) fX12_79 (Or.inr ⟨_, rfl⟩) rfl rfl (rfl : LS173[67]? = some (.inr (12, [none, some 68, none, some 69, none, some 70, some 71, some 72, some 73, some 74, none, none, none, none, none, none, none, none, none, none, none, some 75, some 76, some 77, some 78, some 79, some 80, some 81, some 82, some 83, some 84, some 85, some 86, some 87, none, none, none, none, none, none, none, none, none, none, none, none, none, none, none, none, none, none, none, none, none, none, none, none, none, none, none, none, none, none, none, none, none, none, none, none, none, none]))) (by decide) rfl dX12_init_175 ?_
  refine x_aload_n hP dX12_init_178 rfl ?_
  refine x_iconst hP dX12_init_179 (v := 2) rfl ?_
  obtain ⟨M23, hM23, hf⟩ := b_lt hf
  refine z_newa hP (L2 := LS175) (id := 89) (ty := .int) (N := 2) (t0 := 0) rfl rfl (by decide) ac_int (by decide) (by decide) (by decide) (by decide +kernel) hM23 dX12_init_180 rfl rfl ?_
  refine z_putF hP (L2 := LS176) fX12_82 (Or.inr ⟨_, rfl⟩) rfl rfl (rfl : LS175[67]? = some (.inr (12, [none, some 68, none, some 69, none, some 70, some 71, some 72, some 73, some 74, none, none, none, none, none, none, none, none, none, none, none, some 75, some 76, some 77, some 78, some 79, some 80, some 81, some 82, some 83, some 84, some 85, some 86, some 87, some 88, none, none, none, none, none, none, none, none, none, none, none, none, none, none, none, none, none, none, none, none, none, none, none, none, none, none, none, none, none, none, none, none, none, none, none, none, none]))) (by decide) rfl dX12_init_182 ?_
  refine x_aload_n hP dX12_init_185 rfl ?_
  refine x_iconst hP dX12_init_186 (v := 2) rfl ?_
  obtain ⟨M24, hM24, hf⟩ := b_lt hf
  refine z_newa hP (L2 := LS177) (id := 90) (ty := .int) (N := 2) (t0 := 0) rfl rfl (by decide) ac_int (by decide) (by decide) (by decide) (by decide +kernel) hM24 dX12_init_187 rfl rfl ?_
  refine z_putF hP (L2 := LS178) fX12_85 (Or.inr ⟨_, rfl⟩) rfl rfl (rfl : LS177[67]? = some (.inr (12, [none, some 68, none, some 69, none, some 70, some 71, some 72, some 73, some 74, none, none, none, none, none, none, none, none, none, none, none, some 75, some 76, some 77, some 78, some 79, some 80, some 81, some 82, some 83, some 84, some 85, some 86, some 87, some 88, some 89, none, none, none, none, none, none, none, none, none, none, none, none, none, none, none, none, none, none, none, none, none, none, none, none, none, none, none, none, none, none, none, none, none, none, none, none]))) (by decide) rfl dX12_init_189 ?_
  refine x_aload_n hP dX12_init_192 rfl ?_
  refine x_bipush hP dX12_init_193 (v := 8) rfl ?_
  obtain ⟨M25, hM25, hf⟩ := b_lt hf
  refine z_newa hP (L2 := LS179) (id := 91) (ty := .int) (N := 8) (t0 := 0) rfl rfl (by decide) ac_int (by decide) (by decide) (by decide) (by decide +kernel) hM25 dX12_init_195 rfl rfl ?_
  refine z_putF hP (L2 := LS180) fX12_88 (Or.inr ⟨_, rfl⟩) rfl rfl (rfl : LS179[67]? = some (.inr (12, [none, some 68, none, some 69, none, some 70, some 71, some 72, some 73, some 74, none, none, none, none, none, none, none, none, none, none, none, some 75, some 76, some 77, some 78, some 79, some 80, some 81, some 82, some 83, some 84, some 85, some 86, some 87, some 88, some 89, some 90, none, none, none, none, none, none, none, none, none, none, none, none, none, none, none, none, none, none, none, none, none, none, none, none, none, none, none, none, none, none, none, none, none, none, none]))) (by decide) rfl dX12_init_197 ?_
  refine x_aload_n hP dX12_init_200 rfl ?_
  refine x_bipush hP dX12_init_201 (v := 8) rfl ?_
  obtain ⟨M26, hM26, hf⟩ := b_lt hf
  refine z_newa hP (L2 := LS181) (id := 92) (ty := .int) (N := 8) (t0 := 0) rfl rfl (by decide) ac_int (by decide) (by decide) (by decide) (by decide +kernel) hM26 dX12_init_203 rfl rfl ?_
  refine z_putF hP (L2 := LS182) fX12_91 (Or.inr ⟨_, rfl⟩) rfl rfl (rfl : LS181[67]? = some (.inr (12, [none, some 68, none, some 69, none, some 70, some 71, some 72, some 73, some 74, none, none, none, none, none, none, none, none, none, none, none, some 75, some 76, some 77, some 78, some 79, some 80, some 81, some 82, some 83, some 84, some 85, some 86, some 87, some 88, some 89, some 90, some 91, none, none, none, none, none, none, none, none, none, none, none, none, none, none, none, none, none, none, none, none, none, none, none, none, none, none, none, none, none, none, none, none, none, none]))) (by decide) rfl dX12_init_205 ?_
  refine x_aload_n hP dX12_init_208 rfl ?_
  refine x_sipush hP dX12_init_209 (v := 260) rfl ?_
  obtain ⟨M27, hM27, hf⟩ := b_lt hf
  refine z_newa hP (L2 := LS183) (id := 93) (ty := .boolean) (N := 260) (t0 := 3) rfl rfl (by decide) ac_boolean (by decide) (by decide) (by decide) (by decide +kernel) hM27 dX12_init_212 rfl rfl ?_
  refine z_putF hP (L2 := LS184) fX12_94 (Or.inr ⟨_, rfl⟩) rfl rfl (rfl : LS183[67]? = some (.inr (12, [none, some 68, none, some 69, none, some 70, some 71, some 72, some 73, some 74, none, none, none, none, none, none, none, none, none, none, none, some 75, some 76, some 77, some 78, some 79, some 80, some 81, some 82, some 83, some 84, some 85, some 86, some 87, some 88, some 89, some 90, some 91, some 92, none, none, none, none, none, none, none, none, none, none, none, none, none, none, none, none, none, none, none, none, none, none, none, none, none, none, none, none, none, none, none, none, none]))) (by decide) rfl dX12_init_214 ?_
  refine x_aload_n hP dX12_init_217 rfl ?_
  refine x_sipush hP dX12_init_218 (v := 260) rfl ?_
  obtain ⟨M28, hM28, hf⟩ := b_lt hf
  refine z_newa hP (L2 := LS185) (id := 94) (ty := .int) (N := 260) (t0 := 0) rfl rfl (by decide) ac_int (by decide) (by decide) (by decide) (by decide +kernel) hM28 dX12_init_221 rfl rfl ?_
  refine z_putF hP (L2 := LS186) fX12_98 (Or.inr ⟨_, rfl⟩) rfl rfl (rfl : LS185[67]? = some (.inr (12, [none, some 68, none, some 69, none, some 70, some 71, some 72, some 73, some 74, none, none, none, none, none, none, none, none, none, none, none, some 75, some 76, some 77, some 78, some 79, some 80, some 81, some 82, some 83, some 84, some 85, some 86, some 87, some 88, some 89, some 90, some 91, some 92, none, some 93, none, none, none, none, none, none, none, none, none, none, none, none, none, none, none, none, none, none, none, none, none, none, none, none, none, none, none, none, none, none, none]))) (by decide) rfl dX12_init_223 ?_
  refine x_aload_n hP dX12_init_226 rfl ?_
  refine x_sipush hP dX12_init_227 (v := 260) rfl ?_
  obtain ⟨M29, hM29, hf⟩ := b_lt hf
  refine z_newa hP (L2 := LS187) (id := 95) (ty := .int) (N := 260) (t0 := 0) rfl rfl (by decide) ac_int (by decide) (by decide) (by decide) (by decide +kernel) hM29 dX12_init_230 rfl rfl ?_
  refine z_putF hP (L2 := LS188) fX12_101 (Or.inr ⟨_, rfl⟩) rfl rfl (rfl : LS187[67]? = some (.inr (12, [none, some 68, none, some 69, none, some 70, some 71, some 72, some 73, some 74, none, none, none, none, none, none, none, none, none, none, none, some 75, some 76, some 77, some 78, some 79, some 80, some 81, some 82, some 83, some 84, some 85, some 86, some 87, some 88, some 89, some 90, some 91, some 92, none, some 93, some 94, none, none, none, none, none, none, none, none, none, none, none, none, none, none, none, none, none, none, none, none, none, none, none, none, none, none, none, none, none, none]))) (by decide) rfl dX12_init_232 ?_
  refine x_aload_n hP dX12_init_235 rfl ?_
  refine x_sipush hP dX12_init_236 (v := 260) rfl ?_
  obtain ⟨M30, hM30, hf⟩ := b_lt hf
  refine z_newa hP (L2 := LS189) (id := 96) (ty := .int) (N := 260) (t0 := 0) rfl rfl (by decide) ac_int (by decide) (by decide) (by decide) (by decide +kernel) hM30 dX12_init_239 rfl rfl ?_
  refine z_putF hP (L2 := LS190) fX12_104 (Or.inr ⟨_, rfl⟩) rfl rfl (rfl : LS189[67]? = some (.inr (12, [none, some 68, none, some 69, none, some 70, some 71, some 72, some 73, some 74, none, none, none, none, none, none, none, none, none, none, none, some 75, some 76, some 77, some 78, some 79, some 80, some 81, some 82, some 83, some 84, some 85, some 86, some 87, some 88, some 89, some 90, some 91, some 92, none, some 93, some 94, some 95, none, none, none, none, none, none, none, none, none, none, none, none, none, none, none, none, none, none, none, none, none, none, none, none, none, none, none, none, none]))) (by decide) rfl dX12_init_241 ?_
  refine x_aload_n hP dX12_init_244 rfl ?_
  refine x_sipush hP dX12_init_245 (v := 260) rfl ?_
  obtain ⟨M31, hM31, hf⟩ := b_lt hf
  refine z_newa hP (L2 := LS191) (id := 97) (ty := .int) (N := 260) (t0 := 0) rfl rfl (by decide) ac_int (by decide) (by decide) (by decide) (by decide +kernel) hM31 dX12_init_248 rfl rfl ?_
  refine z_putF hP (L2 := LS192) fX12_107 (Or.inr ⟨_, rfl⟩) rfl rfl (rfl : LS191[67]? = some (.inr (12, [none, some 68, none, some 69, none, some 70, some 71, some 72, some 73, some 74, none, none, none, none, none, none, none, none, none, none, none, some 75, some 76, some 77, some 78, some 79, some 80, some 81, some 82, some 83, some 84, some 85, some 86, some 87, some 88, some 89, some 90, some 91, some 92, none, some 93, some 94, some 95, some 96, none, none, none, none, none, none, none, none, none, none, none, none, none, none, none, none, none, none, none, none, none, none, none, none, none, none, none, none]))) (by decide) rfl dX12_init_250 ?_
  refine x_aload_n hP dX12_init_253 rfl ?_
  refine x_sipush hP dX12_init_254 (v := 840) rfl ?_
  obtain ⟨M32, hM32, hf⟩ := b_lt hf
  refine z_newa hP (L2 := LS193) (id := 98) (ty := .int) (N := 840) (t0 := 0) rfl rfl (by decide) ac_int (by decide) (by decide) (by decide) (by decide +kernel) hM32 dX12_init_257 rfl rfl ?_
  refine z_putF hP (L2 := LS194) fX12_110 (Or.inr ⟨_, rfl⟩) rfl rfl (rfl : LS193[67]? = some (.inr (12, [none, some 68, none, some 69, none, some 70, some 71, some 72, some 73, some 74, none, none, none, none, none, none, none, none, none, none, none, some 75, some 76, some 77, some 78, some 79, some 80, some 81, some 82, some 83, some 84, some 85, some 86, some 87, some 88, some 89, some 90, some 91, some 92, none, some 93, some 94, some 95, some 96, some 97, none, none, none, none, none, none, none, none, none, none, none, none, none, none, none, none, none, none, none, none, none, none, none, none, none, none, none]))) (by decide) rfl dX12_init_259 ?_
  refine x_aload_n hP dX12_init_262 rfl ?_
  refine x_sipush hP dX12_init_263 (v := 840) rfl ?_
  obtain ⟨M33, hM33, hf⟩ := b_lt hf
  refine z_newa hP (L2 := LS195) (id := 99) (ty := .int) (N := 840) (t0 := 0) rfl rfl (by decide) ac_int (by decide) (by decide) (by decide) (by decide +kernel) hM33 dX12_init_266 rfl rfl ?_
  refine z_putF hP (L2 := LS196) fX12_113 (Or.inr ⟨_, rfl⟩) rfl rfl (rfl : LS195[67]? = some (.inr (12, [none, some 68, none, some 69, none, some 70, some 71, some 72, some 73, some 74, none, none, none, none, none, none, none, none, none, none, none, some 75, some 76, some 77, some 78, some 79, some 80, some 81, some 82, some 83, some 84, some 85, some 86, some 87, some 88, some 89, some 90, some 91, some 92, none, some 93, some 94, some 95, some 96, some 97, none, some 98, none, none, none, none, none, none, none, none, none, none, none, none, none, none, none, none, none, none, none, none, none, none, none, none, none]))) (by decide) rfl dX12_init_268 ?_
  refine x_aload_n hP dX12_init_271 rfl ?_
  refine x_bipush hP dX12_init_272 (v := 64) rfl ?_
  obtain ⟨M34, hM34, hf⟩ := b_lt hf
  refine z_newa hP (L2 := LS197) (id := 100) (ty := .int) (N := 64) (t0 := 0) rfl rfl (by decide) ac_int (by decide) (by decide) (by decide) (by decide +kernel) hM34 dX12_init_274 rfl rfl ?_
  refine z_putF hP (L2 := LS198) fX12_116 (Or.inr ⟨_, rfl⟩) rfl rfl (rfl : LS197[67]? = some (.inr (12, [none, some 68, none, some 69, none, some 70, some 71, some 72, some 73, some 74, none, none, none, none, none, none, none, none, none, none, none, some 75, some 76, some 77, some 78, some 79, some 80, some 81, some 82, some 83, some 84, some 85, some 86, some 87, some 88, some 89, some 90, some 91, some 92, none, some 93, some 94, some 95, some 96, some 97, none, some 98, some 99, none, none, none, none, none, none, none, none, none, none, none, none, none, none, none, none, none, none, none, none, none, none, none, none]))) (by decide) rfl dX12_init_276 ?_
  refine x_aload_n hP dX12_init_279 rfl ?_
  refine x_bipush hP dX12_init_280 (v := 9) rfl ?_
  obtain ⟨M35, hM35, hf⟩ := b_lt hf
  refine z_newa hP (L2 := LS199) (id := 101) (ty := .int) (N := 9) (t0 := 0) rfl rfl (by decide) ac_int (by decide) (by decide) (by decide) (by decide +kernel) hM35 dX12_init_282 rfl rfl ?_
  refine z_putF hP (L2 := LS200) fX12_119 (Or.inr ⟨_, rfl⟩) rfl rfl (rfl : LS199[67]? = some (.inr (12, [none, some 68, none, some 69, none, some 70, some 71, some 72, some 73, some 74, none, none, none, none, none, none, none, none, none, none, none, some 75, some 76, some 77, some 78, some 79, some 80, some 81, some 82, some 83, some 84, some 85, some 86, some 87, some 88, some 89, some 90, some 91, some 92, none, some 93, some 94, some 95, some 96, some 97, none, some 98, some 99, some 100, none, none, none, none, none, none, none, none, none, none, none, none, none, none, none, none, none, none, none, none, none, none, none]))) (by decide) rfl dX12_init_284 ?_
  refine x_aload_n hP dX12_init_287 rfl ?_
  refine x_sipush hP dX12_init_288 (v := 400) rfl ?_
  obtain ⟨M36, hM36, hf⟩ := b_lt hf
  refine z_newa hP (L2 := LS201) (id := 102) (ty := .int) (N := 400) (t0 := 0) rfl rfl (by decide) ac_int (by decide) (by decide) (by decide) (by decide +kernel) hM36 dX12_init_291 rfl rfl ?_
  refine z_putF hP (L2 := LS202) fX12_122 (Or.inr ⟨_, rfl⟩) rfl rfl (rfl : LS201[67]? = some (.inr (12, [none, some 68, none, some 69, none, some 70, some 71, some 72, some 73, some 74, none, none, none, none, none, none, none, none, none, none, none, some 75, some 76, some 77, some 78, some 79, some 80, some 81, some 82, some 83, some 84, some 85, some 86, some 87, some 88, some 89, some 90, some 91, some 92, none, some 93, some 94, some 95, some 96, some 97, none, some 98, some 99, some 100, none, some 101, none, none, none, none, none, none, none, none, none, none, none, none, none, none, none, none, none, none, none, none, none]))) (by decide) rfl dX12_init_293 ?_
  refine x_aload_n hP dX12_init_296 rfl ?_
  refine x_bipush hP dX12_init_297 (v := 48) rfl ?_
  obtain ⟨M37, hM37, hf⟩ := b_lt hf
  refine z_newa hP (L2 := LS203) (id := 103) (ty := .int) (N := 48) (t0 := 0) rfl rfl (by decide) ac_int (by decide) (by decide) (by decide) (by decide +kernel) hM37 dX12_init_299 rfl rfl ?_
  refine z_putF hP (L2 := LS204) fX12_125 (Or.inr ⟨_, rfl⟩) rfl rfl (rfl : LS203[67]? = some (.inr (12, [none, some 68, none, some 69, none, some 70, some 71, some 72, some 73, some 74, none, none, none, none, none, none, none, none, none, none, none, some 75, some 76, some 77, some 78, some 79, some 80, some 81, some 82, some 83, some 84, some 85, some 86, some 87, some 88, some 89, some 90, some 91, some 92, none, some 93, some 94, some 95, some 96, some 97, none, some 98, some 99, some 100, none, some 101, some 102, none, none, none, none, none, none, none, none, none, none, none, none, none, none, none, none, none, none, none, none]))) (by decide) rfl dX12_init_301 ?_
  refine x_aload_n hP dX12_init_304 rfl ?_
  refine x_bipush hP dX12_init_305 (v := 48) rfl ?_
  obtain ⟨M38, hM38, hf⟩ := b_lt hf
  refine z_newa hP (L2 := LS205) (id := 104) (ty := .int) (N := 48) (t0 := 0) rfl rfl (by decide) ac_int (by decide) (by decide) (by decide) (by decide +kernel) hM38 dX12_init_307 rfl rfl ?_
  refine z_putF hP (L2 := LS206) fX12_128 (Or.inr ⟨_, rfl⟩) rfl rfl (rfl : LS205[67]? = some (.inr (12, [none, some 68, none, some 69, none, some 70, some 71, some 72, some 73, some 74, none, none, none, none, none, none, none, none, none, none, none, some 75, some 76, some 77, some 78, some 79, some 80, some 81, some 82, some 83, some 84, some 85, some 86, some 87, some 88, some 89, some 90, some 91, some 92, none, some 93, some 94, some 95, some 96, some 97, none, some 98, some 99, some 100, none, some 101, some 102, none, some 103, none, none, none, none, none, none, none, none, none, none, none, none, none, none, none, none, none, none]))) (by decide) rfl dX12_init_309 ?_
  refine x_aload_n hP dX12_init_312 rfl ?_
  refine x_bipush hP dX12_init_313 (v := 6) rfl ?_
  obtain ⟨M39, hM39, hf⟩ := b_lt hf
  refine z_newa hP (L2 := LS207) (id := 105) (ty := .int) (N := 6) (t0 := 0) rfl rfl (by decide) ac_int (by decide) (by decide) (by decide) (by decide +kernel) hM39 dX12_init_315 rfl rfl ?_
  refine z_putF hP (L2 := LS208) fX12_131 (Or.inr ⟨_, rfl⟩) rfl rfl (rfl : LS207[67]? = some (.inr (12, [none, some 68, none, some 69, none, some 70, some 71, some 72, some 73, some 74, none, none, none, none, none, none, none, none, none, none, none, some 75, some 76, some 77, some 78, some 79, some 80, some 81, some 82, some 83, some 84, some 85, some 86, some 87, some 88, some 89, some 90, some 91, some 92, none, some 93, some 94, some 95, some 96, some 97, none, some 98, some 99, some 100, none, some 101, some 102, none, some 103, some 104, none, none, none, none, none, none, none, none, none, none, none, none, none, none, none, none, none]))) (by decide) rfl dX12_init_317 ?_
  refine x_aload_n hP dX12_init_320 rfl ?_
  refine x_bipush hP dX12_init_321 (v := 6) rfl ?_
  obtain ⟨M40, hM40, hf⟩ := b_lt hf
  refine z_newa hP (L2 := LS209) (id := 106) (ty := .boolean) (N := 6) (t0 := 3) rfl rfl (by decide) ac_boolean (by decide) (by decide) (by decide) (by decide +kernel) hM40 dX12_init_323 rfl rfl ?_
  refine z_putF hP (L2 := LS210) fX12_134 (Or.inr ⟨_, rfl⟩) rfl rfl (rfl : LS209[67]? = some (.inr (12, [none, some 68, none, some 69, none, some 70, some 71, some 72, some 73, some 74, none, none, none, none, none, none, none, none, none, none, none, some 75, some 76, some 77, some 78, some 79, some 80, some 81, some 82, some 83, some 84, some 85, some 86, some 87, some 88, some 89, some 90, some 91, some 92, none, some 93, some 94, some 95, some 96, some 97, none, some 98, some 99, some 100, none, some 101, some 102, none, some 103, some 104, none, none, some 105, none, none, none, none, none, none, none, none, none, none, none, none, none, none]))) (by decide) rfl dX12_init_325 ?_
  refine x_aload_n hP dX12_init_328 rfl ?_
  refine x_bipush hP dX12_init_329 (v := 12) rfl ?_
  obtain ⟨M41, hM41, hf⟩ := b_lt hf
  refine z_newa hP (L2 := LS211) (id := 107) (ty := .int) (N := 12) (t0 := 0) rfl rfl (by decide) ac_int (by decide) (by decide) (by decide) (by decide +kernel) hM41 dX12_init_331 rfl rfl ?_
  refine z_putF hP (L2 := LS212) fX12_137 (Or.inr ⟨_, rfl⟩) rfl rfl (rfl : LS211[67]? = some (.inr (12, [none, some 68, none, some 69, none, some 70, some 71, some 72, some 73, some 74, none, none, none, none, none, none, none, none, none, none, none, some 75, some 76, some 77, some 78, some 79, some 80, some 81, some 82, some 83, some 84, some 85, some 86, some 87, some 88, some 89, some 90, some 91, some 92, none, some 93, some 94, some 95, some 96, some 97, none, some 98, some 99, some 100, none, some 101, some 102, none, some 103, some 104, none, none, some 105, some 106, none, none, none, none, none, none, none, none, none, none, none, none, none]))) (by decide) rfl dX12_init_333 ?_
  refine x_aload_n hP dX12_init_336 rfl ?_
  refine x_sipush hP dX12_init_337 (v := 1920) rfl ?_
  obtain ⟨M42, hM42, hf⟩ := b_lt hf
  refine z_newa hP (L2 := LS213) (id := 108) (ty := .int) (N := 1920) (t0 := 0) rfl rfl (by decide) ac_int (by decide) (by decide) (by decide) (by decide +kernel) hM42 dX12_init_340 rfl rfl ?_
  refine z_putF hP (L2 := LS214) fX12_140 (Or.inr ⟨_, rfl⟩) rfl rfl (rfl : LS213[67]? = some (.inr (12, [none, some 68, none, some 69, none, some 70, some 71, some 72, some 73, some 74, none, none, none, none, none, none, none, none, none, none, none, some 75, some 76, some 77, some 78, some 79, some 80, some 81, some 82, some 83, some 84, some 85, some 86, some 87, some 88, some 89, some 90, some 91, some 92, none, some 93, some 94, some 95, some 96, some 97, none, some 98, some 99, some 100, none, some 101, some 102, none, some 103, some 104, none, none, some 105, some 106, some 107, none, none, none, none, none, none, none, none, none, none, none, none]))) (by decide) rfl dX12_init_342 ?_
  refine x_aload_n hP dX12_init_345 rfl ?_
  refine x_bipush hP dX12_init_346 (v := 6) rfl ?_
  obtain ⟨M43, hM43, hf⟩ := b_lt hf
  refine z_newa hP (L2 := LS215) (id := 109) (ty := .int) (N := 6) (t0 := 0) rfl rfl (by decide) ac_int (by decide) (by decide) (by decide) (by decide +kernel) hM43 dX12_init_348 rfl rfl ?_
  refine z_putF hP (L2 := LS216) fX12_143 (Or.inr ⟨_, rfl⟩) rfl rfl (rfl : LS215[67]? = some (.inr (12, [none, some 68, none, some 69, none, some 70, some 71, some 72, some 73, some 74, none, none, none, none, none, none, none, none, none, none, none, some 75, some 76, some 77, some 78, some 79, some 80, some 81, some 82, some 83, some 84, some 85, some 86, some 87, some 88, some 89, some 90, some 91, some 92, none, some 93, some 94, some 95, some 96, some 97, none, some 98, some 99, some 100, none, some 101, some 102, none, some 103, some 104, none, none, some 105, some 106, some 107, none, some 108, none, none, none, none, none, none, none, none, none, none]))) (by decide) rfl dX12_init_350 ?_
  refine x_aload_n hP dX12_init_353 rfl ?_
  refine x_bipush hP dX12_init_354 (v := 7) rfl ?_
  obtain ⟨M44, hM44, hf⟩ := b_lt hf
  refine z_newa hP (L2 := LS217) (id := 110) (ty := .int) (N := 7) (t0 := 0) rfl rfl (by decide) ac_int (by decide) (by decide) (by decide) (by decide +kernel) hM44 dX12_init_356 rfl rfl ?_
  refine z_putF hP (L2 := LS218) fX12_146 (Or.inr ⟨_, rfl⟩) rfl rfl (rfl : LS217[67]? = some (.inr (12, [none, some 68, none, some 69, none, some 70, some 71, some 72, some 73, some 74, none, none, none, none, none, none, none, none, none, none, none, some 75, some 76, some 77, some 78, some 79, some 80, some 81, some 82, some 83, some 84, some 85, some 86, some 87, some 88, some 89, some 90, some 91, some 92, none, some 93, some 94, some 95, some 96, some 97, none, some 98, some 99, some 100, none, some 101, some 102, none, some 103, some 104, none, none, some 105, some 106, some 107, none, some 108, some 109, none, none, none, none, none, none, none, none, none]))) (by decide) rfl dX12_init_358 ?_
  refine x_aload_n hP dX12_init_361 rfl ?_
  refine x_sipush hP dX12_init_362 (v := 896) rfl ?_
  obtain ⟨M45, hM45, hf⟩ := b_lt hf
  refine z_newa hP (L2 := LS219) (id := 111) (ty := .int) (N := 896) (t0 := 0) rfl rfl (by decide) ac_int (by decide) (by decide) (by decide) (by decide +kernel) hM45 dX12_init_365 rfl rfl ?_
  refine z_putF hP (L2 := LS220) fX12_149 (Or.inr ⟨_, rfl⟩) rfl rfl (rfl : LS219[67]? = some (.inr (12, [none, some 68, none, some 69, none, some 70, some 71, some 72, some 73, some 74, none, none, none, none, none, none, none, none, none, none, none, some 75, some 76, some 77, some 78, some 79, some 80, some 81, some 82, some 83, some 84, some 85, some 86, some 87, some 88, some 89, some 90, some 91, some 92, none, some 93, some 94, some 95, some 96, some 97, none, some 98, some 99, some 100, none, some 101, some 102, none, some 103, some 104, none, none, some 105, some 106, some 107, none, some 108, some 109, some 110, none, none, none, none, none, none, none, none]))) (by decide) rfl dX12_init_367 ?_
  refine x_aload_n hP dX12_init_370 rfl ?_
  refine x_bipush hP dX12_init_371 (v := 49) rfl ?_
  obtain ⟨M46, hM46, hf⟩ := b_lt hf
  refine z_newa hP (L2 := LS221) (id := 112) (ty := .int) (N := 49) (t0 := 0) rfl rfl (by decide) ac_int (by decide) (by decide) (by decide) (by decide +kernel) hM46 dX12_init_373 rfl rfl ?_
  refine z_putF hP (L2 := LS222) fX12_152 (Or.inr ⟨_, rfl⟩) rfl rfl (rfl : LS221[67]? = some (.inr (12, [none, some 68, none, some 69, none, some 70, some 71, some 72, some 73, some 74, none, none, none, none, none, none, none, none, none, none, none, some 75, some 76, some 77, some 78, some 79, some 80, some 81, some 82, some 83, some 84, some 85, some 86, some 87, some 88, some 89, some 90, some 91, some 92, none, some 93, some 94, some 95, some 96, some 97, none, some 98, some 99, some 100, none, some 101, some 102, none, some 103, some 104, none, none, some 105, some 106, some 107, none, some 108, some 109, some 110, some 111, none, none, none, none, none, none, none]))) (by decide) rfl dX12_init_375 ?_
  refine x_aload_n hP dX12_init_378 rfl ?_
  refine x_bipush hP dX12_init_379 (v := 20) rfl ?_
  obtain ⟨M47, hM47, hf⟩ := b_lt hf
  refine z_newa hP (L2 := LS223) (id := 113) (ty := .int) (N := 20) (t0 := 0) rfl rfl (by decide) ac_int (by decide) (by decide) (by decide) (by decide +kernel) hM47 dX12_init_381 rfl rfl ?_
  refine z_putF hP (L2 := LS224) fX12_155 (Or.inr ⟨_, rfl⟩) rfl rfl (rfl : LS223[67]? = some (.inr (12, [none, some 68, none, some 69, none, some 70, some 71, some 72, some 73, some 74, none, none, none, none, none, none, none, none, none, none, none, some 75, some 76, some 77, some 78, some 79, some 80, some 81, some 82, some 83, some 84, some 85, some 86, some 87, some 88, some 89, some 90, some 91, some 92, none, some 93, some 94, some 95, some 96, some 97, none, some 98, some 99, some 100, none, some 101, some 102, none, some 103, some 104, none, none, some 105, some 106, some 107, none, some 108, some 109, some 110, some 111, some 112, none, none, none, none, none, none]))) (by decide) rfl dX12_init_383 ?_
  refine x_aload_n hP dX12_init_386 rfl ?_
  refine x_bipush hP dX12_init_387 (v := 20) rfl ?_
  obtain ⟨M48, hM48, hf⟩ := b_lt hf
  refine z_newa hP (L2 := LS225) (id := 114) (ty := .int) (N := 20) (t0 := 0) rfl rfl (by decide) ac_int (by decide) (by decide) (by decide) (by decide +kernel) hM48 dX12_init_389 rfl rfl ?_
  refine z_putF hP (L2 := LS226) fX12_158 (Or.inr ⟨_, rfl⟩) rfl rfl (rfl : LS225[67]? = some (.inr (12, [none, some 68, none, some 69, none, some 70, some 71, some 72, some 73, some 74, none, none, none, none, none, none, none, none, none, none, none, some 75, some 76, some 77, some 78, some 79, some 80, some 81, some 82, some 83, some 84, some 85, some 86, some 87, some 88, some 89, some 90, some 91, some 92, none, some 93, some 94, some 95, some 96, some 97, none, some 98, some 99, some 100, none, some 101, some 102, none, some 103, some 104, none, none, some 105, some 106, some 107, none, some 108, some 109, some 110, some 111, some 112, none, some 113, none, none, none, none]))) (by decide) rfl dX12_init_391 ?_
  refine x_aload_n hP dX12_init_394 rfl ?_
  refine x_bipush hP dX12_init_395 (v := 20) rfl ?_
  obtain ⟨M49, hM49, hf⟩ := b_lt hf
  refine z_newa hP (L2 := LS227) (id := 115) (ty := .boolean) (N := 20) (t0 := 3) rfl rfl (by decide) ac_boolean (by decide) (by decide) (by decide) (by decide +kernel) hM49 dX12_init_397 rfl rfl ?_
  refine z_putF hP (L2 := LS228) fX12_161 (Or.inr ⟨_, rfl⟩) rfl rfl (rfl : LS227[67]? = some (.inr (12, [none, some 68, none, some 69, none, some 70, some 71, some 72, some 73, some 74, none, none, none, none, none, none, none, none, none, none, none, some 75, some 76, some 77, some 78, some 79, some 80, some 81, some 82, some 83, some 84, some 85, some 86, some 87, some 88, some 89, some 90, some 91, some 92, none, some 93, some 94, some 95, some 96, some 97, none, some 98, some 99, some 100, none, some 101, some 102, none, some 103, some 104, none, none, some 105, some 106, some 107, none, some 108, some 109, some 110, some 111, some 112, none, some 113, some 114, none, none, none]))) (by decide) rfl dX12_init_399 ?_
  refine x_aload_n hP dX12_init_402 rfl ?_
  refine x_iconst hP dX12_init_403 (v := 3) rfl ?_
  obtain ⟨M50, hM50, hf⟩ := b_lt hf
  refine z_newa hP (L2 := LS229) (id := 116) (ty := .boolean) (N := 3) (t0 := 3) rfl rfl (by decide) ac_boolean (by decide) (by decide) (by decide) (by decide +kernel) hM50 dX12_init_404 rfl rfl ?_
  refine z_putF hP (L2 := LS230) fX12_164 (Or.inr ⟨_, rfl⟩) rfl rfl (rfl : LS229[67]? = some (.inr (12, [none, some 68, none, some 69, none, some 70, some 71, some 72, some 73, some 74, none, none, none, none, none, none, none, none, none, none, none, some 75, some 76, some 77, some 78, some 79, some 80, some 81, some 82, some 83, some 84, some 85, some 86, some 87, some 88, some 89, some 90, some 91, some 92, none, some 93, some 94, some 95, some 96, some 97, none, some 98, some 99, some 100, none, some 101, some 102, none, some 103, some 104, none, none, some 105, some 106, some 107, none, some 108, some 109, some 110, some 111, some 112, none, some 113, some 114, some 115, none, none]))) (by decide) rfl dX12_init_406 ?_
  refine x_aload_n hP dX12_init_409 rfl ?_
  refine x_sipush hP dX12_init_410 (v := 144) rfl ?_
  obtain ⟨M51, hM51, hf⟩ := b_lt hf
  refine z_newa hP (L2 := LS231) (id := 117) (ty := .int) (N := 144) (t0 := 0) rfl rfl (by decide) ac_int (by decide) (by decide) (by decide) (by decide +kernel) hM51 dX12_init_413 rfl rfl ?_
  refine z_putF hP (L2 := LS232) fX12_167 (Or.inr ⟨_, rfl⟩) rfl rfl (rfl : LS231[67]? = some (.inr (12, [none, some 68, none, some 69, none, some 70, some 71, some 72, some 73, some 74, none, none, none, none, none, none, none, none, none, none, none, some 75, some 76, some 77, some 78, some 79, some 80, some 81, some 82, some 83, some 84, some 85, some 86, some 87, some 88, some 89, some 90, some 91, some 92, none, some 93, some 94, some 95, some 96, some 97, none, some 98, some 99, some 100, none, some 101, some 102, none, some 103, some 104, none, none, some 105, some 106, some 107, none, some 108, some 109, some 110, some 111, some 112, none, some 113, some 114, some 115, some 116, none]))) (by decide) rfl dX12_init_415 ?_
  refine x_aload_n hP dX12_init_418 rfl ?_
  refine x_iconst hP dX12_init_419 (v := 0) rfl ?_
  obtain ⟨M52, hc53, hf⟩ := b_bd hf
  refine x_callV hP (j := iX12_plain) oX12_plain.1 oX12_plain.2.1 oX12_plain.2.2.1 lX12_170 [.int (0 : Int32)] rfl rfl (Nat.le_of_ble_eq_true rfl) (rfl : LS232[67]? = some (.inr (12, [none, some 68, none, some 69, none, some 70, some 71, some 72, some 73, some 74, none, none, none, none, none, none, none, none, none, none, none, some 75, some 76, some 77, some 78, some 79, some 80, some 81, some 82, some 83, some 84, some 85, some 86, some 87, some 88, some 89, some 90, some 91, some 92, none, some 93, some 94, some 95, some 96, some 97, none, some 98, some 99, some 100, none, some 101, some 102, none, some 103, some 104, none, none, some 105, some 106, some 107, none, some 108, some 109, some 110, some 111, some 112, none, some 113, some 114, some 115, some 116, some 117]))) oX12_plain.2.2.2 dX12_init_420 (u_X12_plain (d := d - 1) (by omega) hA232_67 hc53) (by omega) (by decide +kernel) ?_
  refine x_aload_n hP dX12_init_423 rfl ?_
  refine x_iconst hP dX12_init_424 (v := 1) rfl ?_
  obtain ⟨M54, hc55, hf⟩ := b_bd hf
  refine x_callV hP (j := iX12_plain) oX12_plain.1 oX12_plain.2.1 oX12_plain.2.2.1 lX12_170 [.int (1 : Int32)] rfl rfl (Nat.le_of_ble_eq_true rfl) (rfl : LS232[67]? = some (.inr (12, [none, some 68, none, some 69, none, some 70, some 71, some 72, some 73, some 74, none, none, none, none, none, none, none, none, none, none, none, some 75, some 76, some 77, some 78, some 79, some 80, some 81, some 82, some 83, some 84, some 85, some 86, some 87, some 88, some 89, some 90, some 91, some 92, none, some 93, some 94, some 95, some 96, some 97, none, some 98, some 99, some 100, none, some 101, some 102, none, some 103, some 104, none, none, some 105, some 106, some 107, none, some 108, some 109, some 110, some 111, some 112, none, some 113, some 114, some 115, some 116, some 117]))) oX12_plain.2.2.2 dX12_init_425 (u_X12_plain (d := d - 1) (by omega) hA232_67 hc55) (by omega) (by decide +kernel) ?_
  refine x_aload_n hP dX12_init_428 rfl ?_
  refine x_getA hP fX12_34 (rfl : LS232[67]? = some (.inr (12, [none, some 68, none, some 69, none, some 70, some 71, some 72, some 73, some 74, none, none, none, none, none, none, none, none, none, none, none, some 75, some 76, some 77, some 78, some 79, some 80, some 81, some 82, some 83, some 84, some 85, some 86, some 87, some 88, some 89, some 90, some 91, some 92, none, some 93, some 94, some 95, some 96, some 97, none, some 98, some 99, some 100, none, some 101, some 102, none, some 103, some 104, none, none, some 105, some 106, some 107, none, some 108, some 109, some 110, some 111, some 112, none, some 113, some 114, some 115, some 116, some 117]))) (r := 74) rfl dX12_init_429 ?_
  refine x_iconst hP dX12_init_432 (v := 0) rfl ?_
  refine x_bipush hP dX12_init_433 (v := 99) rfl ?_
  refine x_bipush hP dX12_init_435 (v := 111) rfl ?_
  refine x_bipush hP dX12_init_437 (v := 114) rfl ?_
  refine x_bipush hP dX12_init_439 (v := 110) rfl ?_
  refine x_bipush hP dX12_init_441 (v := 101) rfl ?_
  refine x_bipush hP dX12_init_443 (v := 114) rfl ?_
  refine x_iconst hP dX12_init_445 (v := 0) rfl ?_
  obtain ⟨v56, hc57, hf⟩ := b_bd hf
  refine x_callS hP (j := iX12_word) oX12_word.1 oX12_word.2 lX12_174 [.int (99 : Int32), .int (111 : Int32), .int (114 : Int32), .int (110 : Int32), .int (101 : Int32), .int (114 : Int32), .int (0 : Int32)] rfl rfl (Nat.le_of_ble_eq_true rfl) dX12_init_446 (t_X12_word (d := d - 1) (by omega) hc57) (by omega) (by decide +kernel) ?_
  obtain ⟨M58, hM58, hf⟩ := b_lt hf
  refine z_last hP (id := 74) (n := 23) (rfl : LS232[74]? = some (.inl (.long, 23))) (ix := 0) rfl (by decide) hM58 dX12_init_449 ?_
  refine x_aload_n hP dX12_init_450 rfl ?_
  refine x_getA hP fX12_34 (rfl : LS232[67]? = some (.inr (12, [none, some 68, none, some 69, none, some 70, some 71, some 72, some 73, some 74, none, none, none, none, none, none, none, none, none, none, none, some 75, some 76, some 77, some 78, some 79, some 80, some 81, some 82, some 83, some 84, some 85, some 86, some 87, some 88, some 89, some 90, some 91, some 92, none, some 93, some 94, some 95, some 96, some 97, none, some 98, some 99, some 100, none, some 101, some 102, none, some 103, some 104, none, none, some 105, some 106, some 107, none, some 108, some 109, some 110, some 111, some 112, none, some 113, some 114, some 115, some 116, some 117]))) (r := 74) rfl dX12_init_451 ?_
  refine x_iconst hP dX12_init_454 (v := 1) rfl ?_
  refine x_bipush hP dX12_init_455 (v := 115) rfl ?_
  refine x_bipush hP dX12_init_457 (v := 116) rfl ?_
  refine x_bipush hP dX12_init_459 (v := 114) rfl ?_
  refine x_bipush hP dX12_init_461 (v := 101) rfl ?_
  refine x_bipush hP dX12_init_463 (v := 101) rfl ?_
  refine x_bipush hP dX12_init_465 (v := 116) rfl ?_
  refine x_iconst hP dX12_init_467 (v := 0) rfl ?_
  obtain ⟨v59, hc60, hf⟩ := b_bd hf
  refine x_callS hP (j := iX12_word) oX12_word.1 oX12_word.2 lX12_174 [.int (115 : Int32), .int (116 : Int32), .int (114 : Int32), .int (101 : Int32), .int (101 : Int32), .int (116 : Int32), .int (0 : Int32)] rfl rfl (Nat.le_of_ble_eq_true rfl) dX12_init_468 (t_X12_word (d := d - 1) (by omega) hc60) (by omega) (by decide +kernel) ?_
  obtain ⟨M61, hM61, hf⟩ := b_lt hf
  refine z_last hP (id := 74) (n := 23) (rfl : LS232[74]? = some (.inl (.long, 23))) (ix := 1) rfl (by decide) hM61 dX12_init_471 ?_
  refine x_aload_n hP dX12_init_472 rfl ?_
  refine x_getA hP fX12_34 (rfl : LS232[67]? = some (.inr (12, [none, some 68, none, some 69, none, some 70, some 71, some 72, some 73, some 74, none, none, none, none, none, none, none, none, none, none, none, some 75, some 76, some 77, some 78, some 79, some 80, some 81, some 82, some 83, some 84, some 85, some 86, some 87, some 88, some 89, some 90, some 91, some 92, none, some 93, some 94, some 95, some 96, some 97, none, some 98, some 99, some 100, none, some 101, some 102, none, some 103, some 104, none, none, some 105, some 106, some 107, none, some 108, some 109, some 110, some 111, some 112, none, some 113, some 114, some 115, some 116, some 117]))) (r := 74) rfl dX12_init_473 ?_
  refine x_iconst hP dX12_init_476 (v := 2) rfl ?_
  refine x_bipush hP dX12_init_477 (v := 121) rfl ?_
  refine x_bipush hP dX12_init_479 (v := 111) rfl ?_
  refine x_bipush hP dX12_init_481 (v := 117) rfl ?_
  refine x_bipush hP dX12_init_483 (v := 110) rfl ?_
  refine x_bipush hP dX12_init_485 (v := 103) rfl ?_
  refine x_iconst hP dX12_init_487 (v := 0) rfl ?_
  refine x_iconst hP dX12_init_488 (v := 0) rfl ?_
  obtain ⟨v62, hc63, hf⟩ := b_bd hf
  refine x_callS hP (j := iX12_word) oX12_word.1 oX12_word.2 lX12_174 [.int (121 : Int32), .int (111 : Int32), .int (117 : Int32), .int (110 : Int32), .int (103 : Int32), .int (0 : Int32), .int (0 : Int32)] rfl rfl (Nat.le_of_ble_eq_true rfl) dX12_init_489 (t_X12_word (d := d - 1) (by omega) hc63) (by omega) (by decide +kernel) ?_
  obtain ⟨M64, hM64, hf⟩ := b_lt hf
  refine z_last hP (id := 74) (n := 23) (rfl : LS232[74]? = some (.inl (.long, 23))) (ix := 2) rfl (by decide) hM64 dX12_init_492 ?_
  refine x_aload_n hP dX12_init_493 rfl ?_
  refine x_getA hP fX12_34 (rfl : LS232[67]? = some (.inr (12, [none, some 68, none, some 69, none, some 70, some 71, some 72, some 73, some 74, none, none, none, none, none, none, none, none, none, none, none, some 75, some 76, some 77, some 78, some 79, some 80, some 81, some 82, some 83, some 84, some 85, some 86, some 87, some 88, some 89, some 90, some 91, some 92, none, some 93, some 94, some 95, some 96, some 97, none, some 98, some 99, some 100, none, some 101, some 102, none, some 103, some 104, none, none, some 105, some 106, some 107, none, some 108, some 109, some 110, some 111, some 112, none, some 113, some 114, some 115, some 116, some 117]))) (r := 74) rfl dX12_init_494 ?_
  refine x_iconst hP dX12_init_497 (v := 3) rfl ?_
  refine x_bipush hP dX12_init_498 (v := 119) rfl ?_
  refine x_bipush hP dX12_init_500 (v := 111) rfl ?_
  refine x_bipush hP dX12_init_502 (v := 114) rfl ?_
  refine x_bipush hP dX12_init_504 (v := 100) rfl ?_
  refine x_iconst hP dX12_init_506 (v := 0) rfl ?_
  refine x_iconst hP dX12_init_507 (v := 0) rfl ?_
  refine x_iconst hP dX12_init_508 (v := 0) rfl ?_
  obtain ⟨v65, hc66, hf⟩ := b_bd hf
  refine x_callS hP (j := iX12_word) oX12_word.1 oX12_word.2 lX12_174 [.int (119 : Int32), .int (111 : Int32), .int (114 : Int32), .int (100 : Int32), .int (0 : Int32), .int (0 : Int32), .int (0 : Int32)] rfl rfl (Nat.le_of_ble_eq_true rfl) dX12_init_509 (t_X12_word (d := d - 1) (by omega) hc66) (by omega) (by decide +kernel) ?_
  obtain ⟨M67, hM67, hf⟩ := b_lt hf
  refine z_last hP (id := 74) (n := 23) (rfl : LS232[74]? = some (.inl (.long, 23))) (ix := 3) rfl (by decide) hM67 dX12_init_512 ?_
  refine x_aload_n hP dX12_init_513 rfl ?_
  refine x_getA hP fX12_34 (rfl : LS232[67]? = some (.inr (12, [none, some 68, none, some 69, none, some 70, some 71, some 72, some 73, some 74, none, none, none, none, none, none, none, none, none, none, none, some 75, some 76, some 77, some 78, some 79, some 80, some 81, some 82, some 83, some 84, some 85, some 86, some 87, some 88, some 89, some 90, some 91, some 92, none, some 93, some 94, some 95, some 96, some 97, none, some 98, some 99, some 100, none, some 101, some 102, none, some 103, some 104, none, none, some 105, some 106, some 107, none, some 108, some 109, some 110, some 111, some 112, none, some 113, some 114, some 115, some 116, some 117]))) (r := 74) rfl dX12_init_514 ?_
  refine x_iconst hP dX12_init_517 (v := 4) rfl ?_
  refine x_bipush hP dX12_init_518 (v := 108) rfl ?_
  refine x_bipush hP dX12_init_520 (v := 105) rfl ?_
  refine x_bipush hP dX12_init_522 (v := 103) rfl ?_
  refine x_bipush hP dX12_init_524 (v := 104) rfl ?_
  refine x_bipush hP dX12_init_526 (v := 116) rfl ?_
  refine x_bipush hP dX12_init_528 (v := 101) rfl ?_
  refine x_bipush hP dX12_init_530 (v := 114) rfl ?_
  obtain ⟨v68, hc69, hf⟩ := b_bd hf
  refine x_callS hP (j := iX12_word) oX12_word.1 oX12_word.2 lX12_174 [.int (108 : Int32), .int (105 : Int32), .int (103 : Int32), .int (104 : Int32), .int (116 : Int32), .int (101 : Int32), .int (114 : Int32)] rfl rfl (Nat.le_of_ble_eq_true rfl) dX12_init_532 (t_X12_word (d := d - 1) (by omega) hc69) (by omega) (by decide +kernel) ?_
  obtain ⟨M70, hM70, hf⟩ := b_lt hf
  refine z_last hP (id := 74) (n := 23) (rfl : LS232[74]? = some (.inl (.long, 23))) (ix := 4) rfl (by decide) hM70 dX12_init_535 ?_
  refine x_aload_n hP dX12_init_536 rfl ?_
  refine x_getA hP fX12_34 (rfl : LS232[67]? = some (.inr (12, [none, some 68, none, some 69, none, some 70, some 71, some 72, some 73, some 74, none, none, none, none, none, none, none, none, none, none, none, some 75, some 76, some 77, some 78, some 79, some 80, some 81, some 82, some 83, some 84, some 85, some 86, some 87, some 88, some 89, some 90, some 91, some 92, none, some 93, some 94, some 95, some 96, some 97, none, some 98, some 99, some 100, none, some 101, some 102, none, some 103, some 104, none, none, some 105, some 106, some 107, none, some 108, some 109, some 110, some 111, some 112, none, some 113, some 114, some 115, some 116, some 117]))) (r := 74) rfl dX12_init_537 ?_
  refine x_iconst hP dX12_init_540 (v := 5) rfl ?_
  refine x_bipush hP dX12_init_541 (v := 103) rfl ?_
  refine x_bipush hP dX12_init_543 (v := 108) rfl ?_
  refine x_bipush hP dX12_init_545 (v := 111) rfl ?_
  refine x_bipush hP dX12_init_547 (v := 119) rfl ?_
  refine x_bipush hP dX12_init_549 (v := 115) rfl ?_
  refine x_iconst hP dX12_init_551 (v := 0) rfl ?_
  refine x_iconst hP dX12_init_552 (v := 0) rfl ?_
  obtain ⟨v71, hc72, hf⟩ := b_bd hf
  refine x_callS hP (j := iX12_word) oX12_word.1 oX12_word.2 lX12_174 [.int (103 : Int32), .int (108 : Int32), .int (111 : Int32), .int (119 : Int32), .int (115 : Int32), .int (0 : Int32), .int (0 : Int32)] rfl rfl (Nat.le_of_ble_eq_true rfl) dX12_init_553 (t_X12_word (d := d - 1) (by omega) hc72) (by omega) (by decide +kernel) ?_
  obtain ⟨M73, hM73, hf⟩ := b_lt hf
  refine z_last hP (id := 74) (n := 23) (rfl : LS232[74]? = some (.inl (.long, 23))) (ix := 5) rfl (by decide) hM73 dX12_init_556 ?_
  refine x_aload_n hP dX12_init_557 rfl ?_
  refine x_getA hP fX12_34 (rfl : LS232[67]? = some (.inr (12, [none, some 68, none, some 69, none, some 70, some 71, some 72, some 73, some 74, none, none, none, none, none, none, none, none, none, none, none, some 75, some 76, some 77, some 78, some 79, some 80, some 81, some 82, some 83, some 84, some 85, some 86, some 87, some 88, some 89, some 90, some 91, some 92, none, some 93, some 94, some 95, some 96, some 97, none, some 98, some 99, some 100, none, some 101, some 102, none, some 103, some 104, none, none, some 105, some 106, some 107, none, some 108, some 109, some 110, some 111, some 112, none, some 113, some 114, some 115, some 116, some 117]))) (r := 74) rfl dX12_init_558 ?_
  refine x_bipush hP dX12_init_561 (v := 6) rfl ?_
  refine x_bipush hP dX12_init_563 (v := 119) rfl ?_
  refine x_bipush hP dX12_init_565 (v := 101) rfl ?_
  refine x_bipush hP dX12_init_567 (v := 97) rfl ?_
  refine x_bipush hP dX12_init_569 (v := 114) rfl ?_
  refine x_bipush hP dX12_init_571 (v := 115) rfl ?_
  refine x_iconst hP dX12_init_573 (v := 0) rfl ?_
  refine x_iconst hP dX12_init_574 (v := 0) rfl ?_
  obtain ⟨v74, hc75, hf⟩ := b_bd hf
  refine x_callS hP (j := iX12_word) oX12_word.1 oX12_word.2 lX12_174 [.int (119 : Int32), .int (101 : Int32), .int (97 : Int32), .int (114 : Int32), .int (115 : Int32), .int (0 : Int32), .int (0 : Int32)] rfl rfl (Nat.le_of_ble_eq_true rfl) dX12_init_575 (t_X12_word (d := d - 1) (by omega) hc75) (by omega) (by decide +kernel) ?_
  obtain ⟨M76, hM76, hf⟩ := b_lt hf
  refine z_last hP (id := 74) (n := 23) (rfl : LS232[74]? = some (.inl (.long, 23))) (ix := 6) rfl (by decide) hM76 dX12_init_578 ?_
  refine x_aload_n hP dX12_init_579 rfl ?_
  refine x_getA hP fX12_34 (rfl : LS232[67]? = some (.inr (12, [none, some 68, none, some 69, none, some 70, some 71, some 72, some 73, some 74, none, none, none, none, none, none, none, none, none, none, none, some 75, some 76, some 77, some 78, some 79, some 80, some 81, some 82, some 83, some 84, some 85, some 86, some 87, some 88, some 89, some 90, some 91, some 92, none, some 93, some 94, some 95, some 96, some 97, none, some 98, some 99, some 100, none, some 101, some 102, none, some 103, some 104, none, none, some 105, some 106, some 107, none, some 108, some 109, some 110, some 111, some 112, none, some 113, some 114, some 115, some 116, some 117]))) (r := 74) rfl dX12_init_580 ?_
  refine x_bipush hP dX12_init_583 (v := 7) rfl ?_
  refine x_bipush hP dX12_init_585 (v := 99) rfl ?_
  refine x_bipush hP dX12_init_587 (v := 111) rfl ?_
  refine x_bipush hP dX12_init_589 (v := 111) rfl ?_
  refine x_bipush hP dX12_init_591 (v := 108) rfl ?_
  refine x_bipush hP dX12_init_593 (v := 115) rfl ?_
  refine x_iconst hP dX12_init_595 (v := 0) rfl ?_
  refine x_iconst hP dX12_init_596 (v := 0) rfl ?_
  obtain ⟨v77, hc78, hf⟩ := b_bd hf
  refine x_callS hP (j := iX12_word) oX12_word.1 oX12_word.2 lX12_174 [.int (99 : Int32), .int (111 : Int32), .int (111 : Int32), .int (108 : Int32), .int (115 : Int32), .int (0 : Int32), .int (0 : Int32)] rfl rfl (Nat.le_of_ble_eq_true rfl) dX12_init_597 (t_X12_word (d := d - 1) (by omega) hc78) (by omega) (by decide +kernel) ?_
  obtain ⟨M79, hM79, hf⟩ := b_lt hf
  refine z_last hP (id := 74) (n := 23) (rfl : LS232[74]? = some (.inl (.long, 23))) (ix := 7) rfl (by decide) hM79 dX12_init_600 ?_
  refine x_aload_n hP dX12_init_601 rfl ?_
  refine x_getA hP fX12_34 (rfl : LS232[67]? = some (.inr (12, [none, some 68, none, some 69, none, some 70, some 71, some 72, some 73, some 74, none, none, none, none, none, none, none, none, none, none, none, some 75, some 76, some 77, some 78, some 79, some 80, some 81, some 82, some 83, some 84, some 85, some 86, some 87, some 88, some 89, some 90, some 91, some 92, none, some 93, some 94, some 95, some 96, some 97, none, some 98, some 99, some 100, none, some 101, some 102, none, some 103, some 104, none, none, some 105, some 106, some 107, none, some 108, some 109, some 110, some 111, some 112, none, some 113, some 114, some 115, some 116, some 117]))) (r := 74) rfl dX12_init_602 ?_
  refine x_bipush hP dX12_init_605 (v := 8) rfl ?_
  refine x_bipush hP dX12_init_607 (v := 108) rfl ?_
  refine x_bipush hP dX12_init_609 (v := 101) rfl ?_
  refine x_bipush hP dX12_init_611 (v := 97) rfl ?_
  refine x_bipush hP dX12_init_613 (v := 118) rfl ?_
  refine x_bipush hP dX12_init_615 (v := 101) rfl ?_
  refine x_bipush hP dX12_init_617 (v := 115) rfl ?_
  refine x_iconst hP dX12_init_619 (v := 0) rfl ?_
  obtain ⟨v80, hc81, hf⟩ := b_bd hf
  refine x_callS hP (j := iX12_word) oX12_word.1 oX12_word.2 lX12_174 [.int (108 : Int32), .int (101 : Int32), .int (97 : Int32), .int (118 : Int32), .int (101 : Int32), .int (115 : Int32), .int (0 : Int32)] rfl rfl (Nat.le_of_ble_eq_true rfl) dX12_init_620 (t_X12_word (d := d - 1) (by omega) hc81) (by omega) (by decide +kernel) ?_
  obtain ⟨M82, hM82, hf⟩ := b_lt hf
  refine z_last hP (id := 74) (n := 23) (rfl : LS232[74]? = some (.inl (.long, 23))) (ix := 8) rfl (by decide) hM82 dX12_init_623 ?_
  refine x_aload_n hP dX12_init_624 rfl ?_
  refine x_getA hP fX12_34 (rfl : LS232[67]? = some (.inr (12, [none, some 68, none, some 69, none, some 70, some 71, some 72, some 73, some 74, none, none, none, none, none, none, none, none, none, none, none, some 75, some 76, some 77, some 78, some 79, some 80, some 81, some 82, some 83, some 84, some 85, some 86, some 87, some 88, some 89, some 90, some 91, some 92, none, some 93, some 94, some 95, some 96, some 97, none, some 98, some 99, some 100, none, some 101, some 102, none, some 103, some 104, none, none, some 105, some 106, some 107, none, some 108, some 109, some 110, some 111, some 112, none, some 113, some 114, some 115, some 116, some 117]))) (r := 74) rfl dX12_init_625 ?_
  refine x_bipush hP dX12_init_628 (v := 9) rfl ?_
  refine x_bipush hP dX12_init_630 (v := 100) rfl ?_
  refine x_bipush hP dX12_init_632 (v := 114) rfl ?_
  refine x_bipush hP dX12_init_634 (v := 97) rfl ?_
  refine x_bipush hP dX12_init_636 (v := 117) rfl ?_
  refine x_bipush hP dX12_init_638 (v := 103) rfl ?_
  refine x_bipush hP dX12_init_640 (v := 104) rfl ?_
  refine x_bipush hP dX12_init_642 (v := 116) rfl ?_
  obtain ⟨v83, hc84, hf⟩ := b_bd hf
  refine x_callS hP (j := iX12_word) oX12_word.1 oX12_word.2 lX12_174 [.int (100 : Int32), .int (114 : Int32), .int (97 : Int32), .int (117 : Int32), .int (103 : Int32), .int (104 : Int32), .int (116 : Int32)] rfl rfl (Nat.le_of_ble_eq_true rfl) dX12_init_644 (t_X12_word (d := d - 1) (by omega) hc84) (by omega) (by decide +kernel) ?_
  obtain ⟨M85, hM85, hf⟩ := b_lt hf
  refine z_last hP (id := 74) (n := 23) (rfl : LS232[74]? = some (.inl (.long, 23))) (ix := 9) rfl (by decide) hM85 dX12_init_647 ?_
  refine x_aload_n hP dX12_init_648 rfl ?_
  refine x_getA hP fX12_34 (rfl : LS232[67]? = some (.inr (12, [none, some 68, none, some 69, none, some 70, some 71, some 72, some 73, some 74, none, none, none, none, none, none, none, none, none, none, none, some 75, some 76, some 77, some 78, some 79, some 80, some 81, some 82, some 83, some 84, some 85, some 86, some 87, some 88, some 89, some 90, some 91, some 92, none, some 93, some 94, some 95, some 96, some 97, none, some 98, some 99, some 100, none, some 101, some 102, none, some 103, some 104, none, none, some 105, some 106, some 107, none, some 108, some 109, some 110, some 111, some 112, none, some 113, some 114, some 115, some 116, some 117]))) (r := 74) rfl dX12_init_649 ?_
  refine x_bipush hP dX12_init_652 (v := 10) rfl ?_
  refine x_bipush hP dX12_init_654 (v := 115) rfl ?_
  refine x_bipush hP dX12_init_656 (v := 101) rfl ?_
  refine x_bipush hP dX12_init_658 (v := 101) rfl ?_
  refine x_bipush hP dX12_init_660 (v := 100) rfl ?_
  refine x_iconst hP dX12_init_662 (v := 0) rfl ?_
  refine x_iconst hP dX12_init_663 (v := 0) rfl ?_
  refine x_iconst hP dX12_init_664 (v := 0) rfl ?_
  obtain ⟨v86, hc87, hf⟩ := b_bd hf
  refine x_callS hP (j := iX12_word) oX12_word.1 oX12_word.2 lX12_174 [.int (115 : Int32), .int (101 : Int32), .int (101 : Int32), .int (100 : Int32), .int (0 : Int32), .int (0 : Int32), .int (0 : Int32)] rfl rfl (Nat.le_of_ble_eq_true rfl) dX12_init_665 (t_X12_word (d := d - 1) (by omega) hc87) (by omega) (by decide +kernel) ?_
  obtain ⟨M88, hM88, hf⟩ := b_lt hf
  refine z_last hP (id := 74) (n := 23) (rfl : LS232[74]? = some (.inl (.long, 23))) (ix := 10) rfl (by decide) hM88 dX12_init_668 ?_
  refine x_aload_n hP dX12_init_669 rfl ?_
  refine x_getA hP fX12_34 (rfl : LS232[67]? = some (.inr (12, [none, some 68, none, some 69, none, some 70, some 71, some 72, some 73, some 74, none, none, none, none, none, none, none, none, none, none, none, some 75, some 76, some 77, some 78, some 79, some 80, some 81, some 82, some 83, some 84, some 85, some 86, some 87, some 88, some 89, some 90, some 91, some 92, none, some 93, some 94, some 95, some 96, some 97, none, some 98, some 99, some 100, none, some 101, some 102, none, some 103, some 104, none, none, some 105, some 106, some 107, none, some 108, some 109, some 110, some 111, some 112, none, some 113, some 114, some 115, some 116, some 117]))) (r := 74) rfl dX12_init_670 ?_
  refine x_bipush hP dX12_init_673 (v := 11) rfl ?_
  refine x_bipush hP dX12_init_675 (v := 105) rfl ?_
  refine x_bipush hP dX12_init_677 (v := 102) rfl ?_
  refine x_iconst hP dX12_init_679 (v := 0) rfl ?_
  refine x_iconst hP dX12_init_680 (v := 0) rfl ?_
  refine x_iconst hP dX12_init_681 (v := 0) rfl ?_
  refine x_iconst hP dX12_init_682 (v := 0) rfl ?_
  refine x_iconst hP dX12_init_683 (v := 0) rfl ?_
  obtain ⟨v89, hc90, hf⟩ := b_bd hf
  refine x_callS hP (j := iX12_word) oX12_word.1 oX12_word.2 lX12_174 [.int (105 : Int32), .int (102 : Int32), .int (0 : Int32), .int (0 : Int32), .int (0 : Int32), .int (0 : Int32), .int (0 : Int32)] rfl rfl (Nat.le_of_ble_eq_true rfl) dX12_init_684 (t_X12_word (d := d - 1) (by omega) hc90) (by omega) (by decide +kernel) ?_
  obtain ⟨M91, hM91, hf⟩ := b_lt hf
  refine z_last hP (id := 74) (n := 23) (rfl : LS232[74]? = some (.inl (.long, 23))) (ix := 11) rfl (by decide) hM91 dX12_init_687 ?_
  refine x_aload_n hP dX12_init_688 rfl ?_
  refine x_getA hP fX12_34 (rfl : LS232[67]? = some (.inr (12, [none, some 68, none, some 69, none, some 70, some 71, some 72, some 73, some 74, none, none, none, none, none, none, none, none, none, none, none, some 75, some 76, some 77, some 78, some 79, some 80, some 81, some 82, some 83, some 84, some 85, some 86, some 87, some 88, some 89, some 90, some 91, some 92, none, some 93, some 94, some 95, some 96, some 97, none, some 98, some 99, some 100, none, some 101, some 102, none, some 103, some 104, none, none, some 105, some 106, some 107, none, some 108, some 109, some 110, some 111, some 112, none, some 113, some 114, some 115, some 116, some 117]))) (r := 74) rfl dX12_init_689 ?_
  refine x_bipush hP dX12_init_692 (v := 12) rfl ?_
  refine x_bipush hP dX12_init_694 (v := 116) rfl ?_
  refine x_bipush hP dX12_init_696 (v := 104) rfl ?_
  refine x_bipush hP dX12_init_698 (v := 101) rfl ?_
  refine x_bipush hP dX12_init_700 (v := 110) rfl ?_
  refine x_iconst hP dX12_init_702 (v := 0) rfl ?_
  refine x_iconst hP dX12_init_703 (v := 0) rfl ?_
  refine x_iconst hP dX12_init_704 (v := 0) rfl ?_
  obtain ⟨v92, hc93, hf⟩ := b_bd hf
  refine x_callS hP (j := iX12_word) oX12_word.1 oX12_word.2 lX12_174 [.int (116 : Int32), .int (104 : Int32), .int (101 : Int32), .int (110 : Int32), .int (0 : Int32), .int (0 : Int32), .int (0 : Int32)] rfl rfl (Nat.le_of_ble_eq_true rfl) dX12_init_705 (t_X12_word (d := d - 1) (by omega) hc93) (by omega) (by decide +kernel) ?_
  obtain ⟨M94, hM94, hf⟩ := b_lt hf
  refine z_last hP (id := 74) (n := 23) (rfl : LS232[74]? = some (.inl (.long, 23))) (ix := 12) rfl (by decide) hM94 dX12_init_708 ?_
  refine x_aload_n hP dX12_init_709 rfl ?_
  refine x_getA hP fX12_34 (rfl : LS232[67]? = some (.inr (12, [none, some 68, none, some 69, none, some 70, some 71, some 72, some 73, some 74, none, none, none, none, none, none, none, none, none, none, none, some 75, some 76, some 77, some 78, some 79, some 80, some 81, some 82, some 83, some 84, some 85, some 86, some 87, some 88, some 89, some 90, some 91, some 92, none, some 93, some 94, some 95, some 96, some 97, none, some 98, some 99, some 100, none, some 101, some 102, none, some 103, some 104, none, none, some 105, some 106, some 107, none, some 108, some 109, some 110, some 111, some 112, none, some 113, some 114, some 115, some 116, some 117]))) (r := 74) rfl dX12_init_710 ?_
  refine x_bipush hP dX12_init_713 (v := 13) rfl ?_
  refine x_bipush hP dX12_init_715 (v := 101) rfl ?_
  refine x_bipush hP dX12_init_717 (v := 108) rfl ?_
  refine x_bipush hP dX12_init_719 (v := 115) rfl ?_
  refine x_bipush hP dX12_init_721 (v := 101) rfl ?_
  refine x_iconst hP dX12_init_723 (v := 0) rfl ?_
  refine x_iconst hP dX12_init_724 (v := 0) rfl ?_
  refine x_iconst hP dX12_init_725 (v := 0) rfl ?_
  obtain ⟨v95, hc96, hf⟩ := b_bd hf
  refine x_callS hP (j := iX12_word) oX12_word.1 oX12_word.2 lX12_174 [.int (101 : Int32), .int (108 : Int32), .int (115 : Int32), .int (101 : Int32), .int (0 : Int32), .int (0 : Int32), .int (0 : Int32)] rfl rfl (Nat.le_of_ble_eq_true rfl) dX12_init_726 (t_X12_word (d := d - 1) (by omega) hc96) (by omega) (by decide +kernel) ?_
  obtain ⟨M97, hM97, hf⟩ := b_lt hf
  refine z_last hP (id := 74) (n := 23) (rfl : LS232[74]? = some (.inl (.long, 23))) (ix := 13) rfl (by decide) hM97 dX12_init_729 ?_
  refine x_aload_n hP dX12_init_730 rfl ?_
  refine x_getA hP fX12_34 (rfl : LS232[67]? = some (.inr (12, [none, some 68, none, some 69, none, some 70, some 71, some 72, some 73, some 74, none, none, none, none, none, none, none, none, none, none, none, some 75, some 76, some 77, some 78, some 79, some 80, some 81, some 82, some 83, some 84, some 85, some 86, some 87, some 88, some 89, some 90, some 91, some 92, none, some 93, some 94, some 95, some 96, some 97, none, some 98, some 99, some 100, none, some 101, some 102, none, some 103, some 104, none, none, some 105, some 106, some 107, none, some 108, some 109, some 110, some 111, some 112, none, some 113, some 114, some 115, some 116, some 117]))) (r := 74) rfl dX12_init_731 ?_
  refine x_bipush hP dX12_init_734 (v := 14) rfl ?_
  refine x_bipush hP dX12_init_736 (v := 104) rfl ?_
  refine x_bipush hP dX12_init_738 (v := 101) rfl ?_
  refine x_bipush hP dX12_init_740 (v := 97) rfl ?_
  refine x_bipush hP dX12_init_742 (v := 116) rfl ?_
  refine x_iconst hP dX12_init_744 (v := 0) rfl ?_
  refine x_iconst hP dX12_init_745 (v := 0) rfl ?_
  refine x_iconst hP dX12_init_746 (v := 0) rfl ?_
  obtain ⟨v98, hc99, hf⟩ := b_bd hf
  refine x_callS hP (j := iX12_word) oX12_word.1 oX12_word.2 lX12_174 [.int (104 : Int32), .int (101 : Int32), .int (97 : Int32), .int (116 : Int32), .int (0 : Int32), .int (0 : Int32), .int (0 : Int32)] rfl rfl (Nat.le_of_ble_eq_true rfl) dX12_init_747 (t_X12_word (d := d - 1) (by omega) hc99) (by omega) (by decide +kernel) ?_
  obtain ⟨M100, hM100, hf⟩ := b_lt hf
  refine z_last hP (id := 74) (n := 23) (rfl : LS232[74]? = some (.inl (.long, 23))) (ix := 14) rfl (by decide) hM100 dX12_init_750 ?_
  refine x_aload_n hP dX12_init_751 rfl ?_
  refine x_getA hP fX12_34 (rfl : LS232[67]? = some (.inr (12, [none, some 68, none, some 69, none, some 70, some 71, some 72, some 73, some 74, none, none, none, none, none, none, none, none, none, none, none, some 75, some 76, some 77, some 78, some 79, some 80, some 81, some 82, some 83, some 84, some 85, some 86, some 87, some 88, some 89, some 90, some 91, some 92, none, some 93, some 94, some 95, some 96, some 97, none, some 98, some 99, some 100, none, some 101, some 102, none, some 103, some 104, none, none, some 105, some 106, some 107, none, some 108, some 109, some 110, some 111, some 112, none, some 113, some 114, some 115, some 116, some 117]))) (r := 74) rfl dX12_init_752 ?_
  refine x_bipush hP dX12_init_755 (v := 15) rfl ?_
  refine x_bipush hP dX12_init_757 (v := 97) rfl ?_
  refine x_bipush hP dX12_init_759 (v := 103) rfl ?_
  refine x_bipush hP dX12_init_761 (v := 101) rfl ?_
  refine x_iconst hP dX12_init_763 (v := 0) rfl ?_
  refine x_iconst hP dX12_init_764 (v := 0) rfl ?_
  refine x_iconst hP dX12_init_765 (v := 0) rfl ?_
  refine x_iconst hP dX12_init_766 (v := 0) rfl ?_
  obtain ⟨v101, hc102, hf⟩ := b_bd hf
  refine x_callS hP (j := iX12_word) oX12_word.1 oX12_word.2 lX12_174 [.int (97 : Int32), .int (103 : Int32), .int (101 : Int32), .int (0 : Int32), .int (0 : Int32), .int (0 : Int32), .int (0 : Int32)] rfl rfl (Nat.le_of_ble_eq_true rfl) dX12_init_767 (t_X12_word (d := d - 1) (by omega) hc102) (by omega) (by decide +kernel) ?_
  obtain ⟨M103, hM103, hf⟩ := b_lt hf
  refine z_last hP (id := 74) (n := 23) (rfl : LS232[74]? = some (.inl (.long, 23))) (ix := 15) rfl (by decide) hM103 dX12_init_770 ?_
  refine x_aload_n hP dX12_init_771 rfl ?_
  refine x_getA hP fX12_34 (rfl : LS232[67]? = some (.inr (12, [none, some 68, none, some 69, none, some 70, some 71, some 72, some 73, some 74, none, none, none, none, none, none, none, none, none, none, none, some 75, some 76, some 77, some 78, some 79, some 80, some 81, some 82, some 83, some 84, some 85, some 86, some 87, some 88, some 89, some 90, some 91, some 92, none, some 93, some 94, some 95, some 96, some 97, none, some 98, some 99, some 100, none, some 101, some 102, none, some 103, some 104, none, none, some 105, some 106, some 107, none, some 108, some 109, some 110, some 111, some 112, none, some 113, some 114, some 115, some 116, some 117]))) (r := 74) rfl dX12_init_772 ?_
  refine x_bipush hP dX12_init_775 (v := 16) rfl ?_
  refine x_bipush hP dX12_init_777 (v := 116) rfl ?_
  refine x_bipush hP dX12_init_779 (v := 101) rfl ?_
  refine x_bipush hP dX12_init_781 (v := 109) rfl ?_
  refine x_bipush hP dX12_init_783 (v := 112) rfl ?_
  refine x_bipush hP dX12_init_785 (v := 101) rfl ?_
  refine x_bipush hP dX12_init_787 (v := 114) rfl ?_
  refine x_iconst hP dX12_init_789 (v := 0) rfl ?_
  obtain ⟨v104, hc105, hf⟩ := b_bd hf
  refine x_callS hP (j := iX12_word) oX12_word.1 oX12_word.2 lX12_174 [.int (116 : Int32), .int (101 : Int32), .int (109 : Int32), .int (112 : Int32), .int (101 : Int32), .int (114 : Int32), .int (0 : Int32)] rfl rfl (Nat.le_of_ble_eq_true rfl) dX12_init_790 (t_X12_word (d := d - 1) (by omega) hc105) (by omega) (by decide +kernel) ?_
  obtain ⟨M106, hM106, hf⟩ := b_lt hf
  refine z_last hP (id := 74) (n := 23) (rfl : LS232[74]? = some (.inl (.long, 23))) (ix := 16) rfl (by decide) hM106 dX12_init_793 ?_
  refine x_aload_n hP dX12_init_794 rfl ?_
  refine x_getA hP fX12_34 (rfl : LS232[67]? = some (.inr (12, [none, some 68, none, some 69, none, some 70, some 71, some 72, some 73, some 74, none, none, none, none, none, none, none, none, none, none, none, some 75, some 76, some 77, some 78, some 79, some 80, some 81, some 82, some 83, some 84, some 85, some 86, some 87, some 88, some 89, some 90, some 91, some 92, none, some 93, some 94, some 95, some 96, some 97, none, some 98, some 99, some 100, none, some 101, some 102, none, some 103, some 104, none, none, some 105, some 106, some 107, none, some 108, some 109, some 110, some 111, some 112, none, some 113, some 114, some 115, some 116, some 117]))) (r := 74) rfl dX12_init_795 ?_
  refine x_bipush hP dX12_init_798 (v := 17) rfl ?_
  refine x_bipush hP dX12_init_800 (v := 119) rfl ?_
  refine x_bipush hP dX12_init_802 (v := 111) rfl ?_
  refine x_bipush hP dX12_init_804 (v := 114) rfl ?_
  refine x_bipush hP dX12_init_806 (v := 110) rfl ?_
  refine x_iconst hP dX12_init_808 (v := 0) rfl ?_
  refine x_iconst hP dX12_init_809 (v := 0) rfl ?_
  refine x_iconst hP dX12_init_810 (v := 0) rfl ?_
  obtain ⟨v107, hc108, hf⟩ := b_bd hf
  refine x_callS hP (j := iX12_word) oX12_word.1 oX12_word.2 lX12_174 [.int (119 : Int32), .int (111 : Int32), .int (114 : Int32), .int (110 : Int32), .int (0 : Int32), .int (0 : Int32), .int (0 : Int32)] rfl rfl (Nat.le_of_ble_eq_true rfl) dX12_init_811 (t_X12_word (d := d - 1) (by omega) hc108) (by omega) (by decide +kernel) ?_
  obtain ⟨M109, hM109, hf⟩ := b_lt hf
  refine z_last hP (id := 74) (n := 23) (rfl : LS232[74]? = some (.inl (.long, 23))) (ix := 17) rfl (by decide) hM109 dX12_init_814 ?_
  refine x_aload_n hP dX12_init_815 rfl ?_
  refine x_getA hP fX12_34 (rfl : LS232[67]? = some (.inr (12, [none, some 68, none, some 69, none, some 70, some 71, some 72, some 73, some 74, none, none, none, none, none, none, none, none, none, none, none, some 75, some 76, some 77, some 78, some 79, some 80, some 81, some 82, some 83, some 84, some 85, some 86, some 87, some 88, some 89, some 90, some 91, some 92, none, some 93, some 94, some 95, some 96, some 97, none, some 98, some 99, some 100, none, some 101, some 102, none, some 103, some 104, none, none, some 105, some 106, some 107, none, some 108, some 109, some 110, some 111, some 112, none, some 113, some 114, some 115, some 116, some 117]))) (r := 74) rfl dX12_init_816 ?_
  refine x_bipush hP dX12_init_819 (v := 18) rfl ?_
  refine x_bipush hP dX12_init_821 (v := 115) rfl ?_
  refine x_bipush hP dX12_init_823 (v := 105) rfl ?_
  refine x_bipush hP dX12_init_825 (v := 110) rfl ?_
  refine x_bipush hP dX12_init_827 (v := 99) rfl ?_
  refine x_bipush hP dX12_init_829 (v := 101) rfl ?_
  refine x_iconst hP dX12_init_831 (v := 0) rfl ?_
  refine x_iconst hP dX12_init_832 (v := 0) rfl ?_
  obtain ⟨v110, hc111, hf⟩ := b_bd hf
  refine x_callS hP (j := iX12_word) oX12_word.1 oX12_word.2 lX12_174 [.int (115 : Int32), .int (105 : Int32), .int (110 : Int32), .int (99 : Int32), .int (101 : Int32), .int (0 : Int32), .int (0 : Int32)] rfl rfl (Nat.le_of_ble_eq_true rfl) dX12_init_833 (t_X12_word (d := d - 1) (by omega) hc111) (by omega) (by decide +kernel) ?_
  obtain ⟨M112, hM112, hf⟩ := b_lt hf
  refine z_last hP (id := 74) (n := 23) (rfl : LS232[74]? = some (.inl (.long, 23))) (ix := 18) rfl (by decide) hM112 dX12_init_836 ?_
  refine x_aload_n hP dX12_init_837 rfl ?_
  refine x_getA hP fX12_34 (rfl : LS232[67]? = some (.inr (12, [none, some 68, none, some 69, none, some 70, some 71, some 72, some 73, some 74, none, none, none, none, none, none, none, none, none, none, none, some 75, some 76, some 77, some 78, some 79, some 80, some 81, some 82, some 83, some 84, some 85, some 86, some 87, some 88, some 89, some 90, some 91, some 92, none, some 93, some 94, some 95, some 96, some 97, none, some 98, some 99, some 100, none, some 101, some 102, none, some 103, some 104, none, none, some 105, some 106, some 107, none, some 108, some 109, some 110, some 111, some 112, none, some 113, some 114, some 115, some 116, some 117]))) (r := 74) rfl dX12_init_838 ?_
  refine x_bipush hP dX12_init_841 (v := 19) rfl ?_
  refine x_bipush hP dX12_init_843 (v := 104) rfl ?_
  refine x_bipush hP dX12_init_845 (v := 111) rfl ?_
  refine x_bipush hP dX12_init_847 (v := 117) rfl ?_
  refine x_bipush hP dX12_init_849 (v := 114) rfl ?_
  refine x_iconst hP dX12_init_851 (v := 0) rfl ?_
  refine x_iconst hP dX12_init_852 (v := 0) rfl ?_
  refine x_iconst hP dX12_init_853 (v := 0) rfl ?_
  obtain ⟨v113, hc114, hf⟩ := b_bd hf
  refine x_callS hP (j := iX12_word) oX12_word.1 oX12_word.2 lX12_174 [.int (104 : Int32), .int (111 : Int32), .int (117 : Int32), .int (114 : Int32), .int (0 : Int32), .int (0 : Int32), .int (0 : Int32)] rfl rfl (Nat.le_of_ble_eq_true rfl) dX12_init_854 (t_X12_word (d := d - 1) (by omega) hc114) (by omega) (by decide +kernel) ?_
  obtain ⟨M115, hM115, hf⟩ := b_lt hf
  refine z_last hP (id := 74) (n := 23) (rfl : LS232[74]? = some (.inl (.long, 23))) (ix := 19) rfl (by decide) hM115 dX12_init_857 ?_
  refine x_aload_n hP dX12_init_858 rfl ?_
  refine x_getA hP fX12_34 (rfl : LS232[67]? = some (.inr (12, [none, some 68, none, some 69, none, some 70, some 71, some 72, some 73, some 74, none, none, none, none, none, none, none, none, none, none, none, some 75, some 76, some 77, some 78, some 79, some 80, some 81, some 82, some 83, some 84, some 85, some 86, some 87, some 88, some 89, some 90, some 91, some 92, none, some 93, some 94, some 95, some 96, some 97, none, some 98, some 99, some 100, none, some 101, some 102, none, some 103, some 104, none, none, some 105, some 106, some 107, none, some 108, some 109, some 110, some 111, some 112, none, some 113, some 114, some 115, some 116, some 117]))) (r := 74) rfl dX12_init_859 ?_
  refine x_bipush hP dX12_init_862 (v := 20) rfl ?_
  refine x_bipush hP dX12_init_864 (v := 103) rfl ?_
  refine x_bipush hP dX12_init_866 (v := 108) rfl ?_
  refine x_bipush hP dX12_init_868 (v := 111) rfl ?_
  refine x_bipush hP dX12_init_870 (v := 119) rfl ?_
  refine x_iconst hP dX12_init_872 (v := 0) rfl ?_
  refine x_iconst hP dX12_init_873 (v := 0) rfl ?_
  refine x_iconst hP dX12_init_874 (v := 0) rfl ?_
  obtain ⟨v116, hc117, hf⟩ := b_bd hf
  refine x_callS hP (j := iX12_word) oX12_word.1 oX12_word.2 lX12_174 [.int (103 : Int32), .int (108 : Int32), .int (111 : Int32), .int (119 : Int32), .int (0 : Int32), .int (0 : Int32), .int (0 : Int32)] rfl rfl (Nat.le_of_ble_eq_true rfl) dX12_init_875 (t_X12_word (d := d - 1) (by omega) hc117) (by omega) (by decide +kernel) ?_
  obtain ⟨M118, hM118, hf⟩ := b_lt hf
  refine z_last hP (id := 74) (n := 23) (rfl : LS232[74]? = some (.inl (.long, 23))) (ix := 20) rfl (by decide) hM118 dX12_init_878 ?_
  refine x_aload_n hP dX12_init_879 rfl ?_
  refine x_getA hP fX12_34 (rfl : LS232[67]? = some (.inr (12, [none, some 68, none, some 69, none, some 70, some 71, some 72, some 73, some 74, none, none, none, none, none, none, none, none, none, none, none, some 75, some 76, some 77, some 78, some 79, some 80, some 81, some 82, some 83, some 84, some 85, some 86, some 87, some 88, some 89, some 90, some 91, some 92, none, some 93, some 94, some 95, some 96, some 97, none, some 98, some 99, some 100, none, some 101, some 102, none, some 103, some 104, none, none, some 105, some 106, some 107, none, some 108, some 109, some 110, some 111, some 112, none, some 113, some 114, some 115, some 116, some 117]))) (r := 74) rfl dX12_init_880 ?_
  refine x_bipush hP dX12_init_883 (v := 21) rfl ?_
  refine x_bipush hP dX12_init_885 (v := 119) rfl ?_
  refine x_bipush hP dX12_init_887 (v := 104) rfl ?_
  refine x_bipush hP dX12_init_889 (v := 105) rfl ?_
  refine x_bipush hP dX12_init_891 (v := 99) rfl ?_
  refine x_bipush hP dX12_init_893 (v := 104) rfl ?_
  refine x_iconst hP dX12_init_895 (v := 0) rfl ?_
  refine x_iconst hP dX12_init_896 (v := 0) rfl ?_
  obtain ⟨v119, hc120, hf⟩ := b_bd hf
  refine x_callS hP (j := iX12_word) oX12_word.1 oX12_word.2 lX12_174 [.int (119 : Int32), .int (104 : Int32), .int (105 : Int32), .int (99 : Int32), .int (104 : Int32), .int (0 : Int32), .int (0 : Int32)] rfl rfl (Nat.le_of_ble_eq_true rfl) dX12_init_897 (t_X12_word (d := d - 1) (by omega) hc120) (by omega) (by decide +kernel) ?_
  obtain ⟨M121, hM121, hf⟩ := b_lt hf
  refine z_last hP (id := 74) (n := 23) (rfl : LS232[74]? = some (.inl (.long, 23))) (ix := 21) rfl (by decide) hM121 dX12_init_900 ?_
  refine x_aload_n hP dX12_init_901 rfl ?_
  refine x_getA hP fX12_34 (rfl : LS232[67]? = some (.inr (12, [none, some 68, none, some 69, none, some 70, some 71, some 72, some 73, some 74, none, none, none, none, none, none, none, none, none, none, none, some 75, some 76, some 77, some 78, some 79, some 80, some 81, some 82, some 83, some 84, some 85, some 86, some 87, some 88, some 89, some 90, some 91, some 92, none, some 93, some 94, some 95, some 96, some 97, none, some 98, some 99, some 100, none, some 101, some 102, none, some 103, some 104, none, none, some 105, some 106, some 107, none, some 108, some 109, some 110, some 111, some 112, none, some 113, some 114, some 115, some 116, some 117]))) (r := 74) rfl dX12_init_902 ?_
  refine x_bipush hP dX12_init_905 (v := 22) rfl ?_
  refine x_bipush hP dX12_init_907 (v := 116) rfl ?_
  refine x_bipush hP dX12_init_909 (v := 111) rfl ?_
  refine x_bipush hP dX12_init_911 (v := 108) rfl ?_
  refine x_bipush hP dX12_init_913 (v := 100) rfl ?_
  refine x_iconst hP dX12_init_915 (v := 0) rfl ?_
  refine x_iconst hP dX12_init_916 (v := 0) rfl ?_
  refine x_iconst hP dX12_init_917 (v := 0) rfl ?_
  obtain ⟨v122, hc123, hf⟩ := b_bd hf
  refine x_callS hP (j := iX12_word) oX12_word.1 oX12_word.2 lX12_174 [.int (116 : Int32), .int (111 : Int32), .int (108 : Int32), .int (100 : Int32), .int (0 : Int32), .int (0 : Int32), .int (0 : Int32)] rfl rfl (Nat.le_of_ble_eq_true rfl) dX12_init_918 (t_X12_word (d := d - 1) (by omega) hc123) (by omega) (by decide +kernel) ?_
  obtain ⟨M124, hM124, hf⟩ := b_lt hf
  refine z_last hP (id := 74) (n := 23) (rfl : LS232[74]? = some (.inl (.long, 23))) (ix := 22) rfl (by decide) hM124 dX12_init_921 ?_
  refine x_aload_n hP dX12_init_922 rfl ?_
  obtain ⟨M125, hc126, hf⟩ := b_bd hf
  refine x_callV hP (j := iX12_begins) oX12_begins.1 oX12_begins.2.1 oX12_begins.2.2.1 lX12_178 [] rfl rfl (Nat.le_of_ble_eq_true rfl) (rfl : LS232[67]? = some (.inr (12, [none, some 68, none, some 69, none, some 70, some 71, some 72, some 73, some 74, none, none, none, none, none, none, none, none, none, none, none, some 75, some 76, some 77, some 78, some 79, some 80, some 81, some 82, some 83, some 84, some 85, some 86, some 87, some 88, some 89, some 90, some 91, some 92, none, some 93, some 94, some 95, some 96, some 97, none, some 98, some 99, some 100, none, some 101, some 102, none, some 103, some 104, none, none, some 105, some 106, some 107, none, some 108, some 109, some 110, some 111, some 112, none, some 113, some 114, some 115, some 116, some 117]))) oX12_begins.2.2.2 dX12_init_923 (u_X12_begins (d := d - 1) (by omega) hA232_67 hc126) (by omega) (by decide +kernel) ?_
  refine x_aload_n hP dX12_init_926 rfl ?_
  obtain ⟨M127, hc128, hf⟩ := b_bd hf
  refine x_callV hP (j := iX12_keepsRow) oX12_keepsRow.1 oX12_keepsRow.2.1 oX12_keepsRow.2.2.1 lX12_181 [] rfl rfl (Nat.le_of_ble_eq_true rfl) (rfl : LS232[67]? = some (.inr (12, [none, some 68, none, some 69, none, some 70, some 71, some 72, some 73, some 74, none, none, none, none, none, none, none, none, none, none, none, some 75, some 76, some 77, some 78, some 79, some 80, some 81, some 82, some 83, some 84, some 85, some 86, some 87, some 88, some 89, some 90, some 91, some 92, none, some 93, some 94, some 95, some 96, some 97, none, some 98, some 99, some 100, none, some 101, some 102, none, some 103, some 104, none, none, some 105, some 106, some 107, none, some 108, some 109, some 110, some 111, some 112, none, some 113, some 114, some 115, some 116, some 117]))) oX12_keepsRow.2.2.2 dX12_init_927 (u_X12_keepsRow (d := d - 1) (by omega) hA232_67 hc128) (by omega) (by decide +kernel) ?_
  cases hf
  exact x_vret hP rfl dX12_init_930
theorem LS_all : LS232 = LAY := by decide +kernel

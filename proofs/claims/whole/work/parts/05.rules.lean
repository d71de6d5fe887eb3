section RULES
variable {g : GG} {i : MI} {d nc ns : Nat} {res : Option RS} {P : PT} {pc : Nat} {ls : List (Option Value)} {st : List Value} {L : List Lay} {M : Mem}
theorem x_iadd (hP : IsW g i d nc ns res P) {x y : Int32} (hd : decode i.2.1 pc = .ok (.iadd, 1))  (k : P (pc + 1) ls (.int (x + y) :: st) L M) : P pc ls (.int y :: .int x :: st) L M := by
  obtain ⟨p, l, e, R, s, m, args, below, meth, c, Q, n0, z0, rfl, hx, hb, hml, hown, hK, hR, hlk, hnm, hg0, hres⟩ := hP
  intro H locs lsA hW hloc hl hn hz
  exact lv_iadd hx hb hd (k H locs lsA hW hloc hl hn hz)
theorem x_isub (hP : IsW g i d nc ns res P) {x y : Int32} (hd : decode i.2.1 pc = .ok (.isub, 1))  (k : P (pc + 1) ls (.int (x - y) :: st) L M) : P pc ls (.int y :: .int x :: st) L M := by
  obtain ⟨p, l, e, R, s, m, args, below, meth, c, Q, n0, z0, rfl, hx, hb, hml, hown, hK, hR, hlk, hnm, hg0, hres⟩ := hP
  intro H locs lsA hW hloc hl hn hz
  exact lv_isub hx hb hd (k H locs lsA hW hloc hl hn hz)
theorem x_imul (hP : IsW g i d nc ns res P) {x y : Int32} (hd : decode i.2.1 pc = .ok (.imul, 1))  (k : P (pc + 1) ls (.int (x * y) :: st) L M) : P pc ls (.int y :: .int x :: st) L M := by
  obtain ⟨p, l, e, R, s, m, args, below, meth, c, Q, n0, z0, rfl, hx, hb, hml, hown, hK, hR, hlk, hnm, hg0, hres⟩ := hP
  intro H locs lsA hW hloc hl hn hz
  exact lv_imul hx hb hd (k H locs lsA hW hloc hl hn hz)
theorem x_iand (hP : IsW g i d nc ns res P) {x y : Int32} (hd : decode i.2.1 pc = .ok (.iand, 1))  (k : P (pc + 1) ls (.int (x &&& y) :: st) L M) : P pc ls (.int y :: .int x :: st) L M := by
  obtain ⟨p, l, e, R, s, m, args, below, meth, c, Q, n0, z0, rfl, hx, hb, hml, hown, hK, hR, hlk, hnm, hg0, hres⟩ := hP
  intro H locs lsA hW hloc hl hn hz
  exact lv_iand hx hb hd (k H locs lsA hW hloc hl hn hz)
theorem x_ior (hP : IsW g i d nc ns res P) {x y : Int32} (hd : decode i.2.1 pc = .ok (.ior, 1))  (k : P (pc + 1) ls (.int (x ||| y) :: st) L M) : P pc ls (.int y :: .int x :: st) L M := by
  obtain ⟨p, l, e, R, s, m, args, below, meth, c, Q, n0, z0, rfl, hx, hb, hml, hown, hK, hR, hlk, hnm, hg0, hres⟩ := hP
  intro H locs lsA hW hloc hl hn hz
  exact lv_ior hx hb hd (k H locs lsA hW hloc hl hn hz)
theorem x_ixor (hP : IsW g i d nc ns res P) {x y : Int32} (hd : decode i.2.1 pc = .ok (.ixor, 1))  (k : P (pc + 1) ls (.int (x ^^^ y) :: st) L M) : P pc ls (.int y :: .int x :: st) L M := by
  obtain ⟨p, l, e, R, s, m, args, below, meth, c, Q, n0, z0, rfl, hx, hb, hml, hown, hK, hR, hlk, hnm, hg0, hres⟩ := hP
  intro H locs lsA hW hloc hl hn hz
  exact lv_ixor hx hb hd (k H locs lsA hW hloc hl hn hz)
theorem x_ishl (hP : IsW g i d nc ns res P) {x y : Int32} (hd : decode i.2.1 pc = .ok (.ishl, 1))  (k : P (pc + 1) ls (.int (x <<< (y &&& 31)) :: st) L M) : P pc ls (.int y :: .int x :: st) L M := by
  obtain ⟨p, l, e, R, s, m, args, below, meth, c, Q, n0, z0, rfl, hx, hb, hml, hown, hK, hR, hlk, hnm, hg0, hres⟩ := hP
  intro H locs lsA hW hloc hl hn hz
  exact lv_ishl hx hb hd (k H locs lsA hW hloc hl hn hz)
theorem x_ishr (hP : IsW g i d nc ns res P) {x y : Int32} (hd : decode i.2.1 pc = .ok (.ishr, 1))  (k : P (pc + 1) ls (.int (x >>> (y &&& 31)) :: st) L M) : P pc ls (.int y :: .int x :: st) L M := by
  obtain ⟨p, l, e, R, s, m, args, below, meth, c, Q, n0, z0, rfl, hx, hb, hml, hown, hK, hR, hlk, hnm, hg0, hres⟩ := hP
  intro H locs lsA hW hloc hl hn hz
  exact lv_ishr hx hb hd (k H locs lsA hW hloc hl hn hz)
theorem x_iushr (hP : IsW g i d nc ns res P) {x y : Int32} (hd : decode i.2.1 pc = .ok (.iushr, 1))  (k : P (pc + 1) ls (.int ((x.toUInt32 >>> (y.toUInt32 &&& Int32.toUInt32 31)).toInt32) :: st) L M) : P pc ls (.int y :: .int x :: st) L M := by
  obtain ⟨p, l, e, R, s, m, args, below, meth, c, Q, n0, z0, rfl, hx, hb, hml, hown, hK, hR, hlk, hnm, hg0, hres⟩ := hP
  intro H locs lsA hW hloc hl hn hz
  exact lv_iushr hx hb hd rfl (k H locs lsA hW hloc hl hn hz)
theorem x_idiv (hP : IsW g i d nc ns res P) {x y : Int32} (hd : decode i.2.1 pc = .ok (.idiv, 1)) (hne : ¬ y = 0) (k : P (pc + 1) ls (.int (x / y) :: st) L M) : P pc ls (.int y :: .int x :: st) L M := by
  obtain ⟨p, l, e, R, s, m, args, below, meth, c, Q, n0, z0, rfl, hx, hb, hml, hown, hK, hR, hlk, hnm, hg0, hres⟩ := hP
  intro H locs lsA hW hloc hl hn hz
  exact lv_idiv hx hb hd hne (k H locs lsA hW hloc hl hn hz)
theorem x_irem (hP : IsW g i d nc ns res P) {x y : Int32} (hd : decode i.2.1 pc = .ok (.irem, 1)) (hne : ¬ y = 0) (k : P (pc + 1) ls (.int (x - x / y * y) :: st) L M) : P pc ls (.int y :: .int x :: st) L M := by
  obtain ⟨p, l, e, R, s, m, args, below, meth, c, Q, n0, z0, rfl, hx, hb, hml, hown, hK, hR, hlk, hnm, hg0, hres⟩ := hP
  intro H locs lsA hW hloc hl hn hz
  exact lv_irem hx hb hd hne (k H locs lsA hW hloc hl hn hz)
theorem x_ineg (hP : IsW g i d nc ns res P) {x : Int32} (hd : decode i.2.1 pc = .ok (.ineg, 1))  (k : P (pc + 1) ls (.int (-x) :: st) L M) : P pc ls (.int x :: st) L M := by
  obtain ⟨p, l, e, R, s, m, args, below, meth, c, Q, n0, z0, rfl, hx, hb, hml, hown, hK, hR, hlk, hnm, hg0, hres⟩ := hP
  intro H locs lsA hW hloc hl hn hz
  exact lv_ineg hx hb hd (k H locs lsA hW hloc hl hn hz)
theorem x_ladd (hP : IsW g i d nc ns res P) {x y : Int64} (hd : decode i.2.1 pc = .ok (.ladd, 1))  (k : P (pc + 1) ls (.long (x + y) :: st) L M) : P pc ls (.long y :: .long x :: st) L M := by
  obtain ⟨p, l, e, R, s, m, args, below, meth, c, Q, n0, z0, rfl, hx, hb, hml, hown, hK, hR, hlk, hnm, hg0, hres⟩ := hP
  intro H locs lsA hW hloc hl hn hz
  exact lv_ladd hx hb hd (k H locs lsA hW hloc hl hn hz)
theorem x_lsub (hP : IsW g i d nc ns res P) {x y : Int64} (hd : decode i.2.1 pc = .ok (.lsub, 1))  (k : P (pc + 1) ls (.long (x - y) :: st) L M) : P pc ls (.long y :: .long x :: st) L M := by
  obtain ⟨p, l, e, R, s, m, args, below, meth, c, Q, n0, z0, rfl, hx, hb, hml, hown, hK, hR, hlk, hnm, hg0, hres⟩ := hP
  intro H locs lsA hW hloc hl hn hz
  exact lv_lsub hx hb hd (k H locs lsA hW hloc hl hn hz)
theorem x_lmul (hP : IsW g i d nc ns res P) {x y : Int64} (hd : decode i.2.1 pc = .ok (.lmul, 1))  (k : P (pc + 1) ls (.long (x * y) :: st) L M) : P pc ls (.long y :: .long x :: st) L M := by
  obtain ⟨p, l, e, R, s, m, args, below, meth, c, Q, n0, z0, rfl, hx, hb, hml, hown, hK, hR, hlk, hnm, hg0, hres⟩ := hP
  intro H locs lsA hW hloc hl hn hz
  exact lv_lmul hx hb hd (k H locs lsA hW hloc hl hn hz)
theorem x_i2l (hP : IsW g i d nc ns res P) {x : Int32} (hd : decode i.2.1 pc = .ok (.i2l, 1))  (k : P (pc + 1) ls (.long x.toInt64 :: st) L M) : P pc ls (.int x :: st) L M := by
  obtain ⟨p, l, e, R, s, m, args, below, meth, c, Q, n0, z0, rfl, hx, hb, hml, hown, hK, hR, hlk, hnm, hg0, hres⟩ := hP
  intro H locs lsA hW hloc hl hn hz
  exact lv_i2l hx hb hd rfl (k H locs lsA hW hloc hl hn hz)
theorem x_l2i (hP : IsW g i d nc ns res P) {x : Int64} (hd : decode i.2.1 pc = .ok (.l2i, 1))  (k : P (pc + 1) ls (.int x.toInt32 :: st) L M) : P pc ls (.long x :: st) L M := by
  obtain ⟨p, l, e, R, s, m, args, below, meth, c, Q, n0, z0, rfl, hx, hb, hml, hown, hK, hR, hlk, hnm, hg0, hres⟩ := hP
  intro H locs lsA hW hloc hl hn hz
  exact lv_l2i hx hb hd rfl (k H locs lsA hW hloc hl hn hz)
theorem x_i2b (hP : IsW g i d nc ns res P) {x : Int32} (hd : decode i.2.1 pc = .ok (.i2b, 1))  (k : P (pc + 1) ls (.int x.toInt8.toInt32 :: st) L M) : P pc ls (.int x :: st) L M := by
  obtain ⟨p, l, e, R, s, m, args, below, meth, c, Q, n0, z0, rfl, hx, hb, hml, hown, hK, hR, hlk, hnm, hg0, hres⟩ := hP
  intro H locs lsA hW hloc hl hn hz
  exact lv_i2b hx hb hd rfl (k H locs lsA hW hloc hl hn hz)
theorem x_i2c (hP : IsW g i d nc ns res P) {x : Int32} (hd : decode i.2.1 pc = .ok (.i2c, 1))  (k : P (pc + 1) ls (.int (x.toUInt32 % 65536).toInt32 :: st) L M) : P pc ls (.int x :: st) L M := by
  obtain ⟨p, l, e, R, s, m, args, below, meth, c, Q, n0, z0, rfl, hx, hb, hml, hown, hK, hR, hlk, hnm, hg0, hres⟩ := hP
  intro H locs lsA hW hloc hl hn hz
  exact lv_i2c hx hb hd rfl (k H locs lsA hW hloc hl hn hz)
theorem x_iconst (hP : IsW g i d nc ns res P) {n : Int} {v : Int32} (hd : decode i.2.1 pc = .ok (.iconst n, 1)) (hv : Int32.ofInt n = v) (k : P (pc + 1) ls (.int v :: st) L M) : P pc ls (st) L M := by
  obtain ⟨p, l, e, R, s, m, args, below, meth, c, Q, n0, z0, rfl, hx, hb, hml, hown, hK, hR, hlk, hnm, hg0, hres⟩ := hP
  intro H locs lsA hW hloc hl hn hz
  exact lv_iconst hx hb hd hv (k H locs lsA hW hloc hl hn hz)
theorem x_bipush (hP : IsW g i d nc ns res P) {n : Int} {v : Int32} (hd : decode i.2.1 pc = .ok (.bipush n, 2)) (hv : (Int8.ofInt n).toInt32 = v) (k : P (pc + 2) ls (.int v :: st) L M) : P pc ls (st) L M := by
  obtain ⟨p, l, e, R, s, m, args, below, meth, c, Q, n0, z0, rfl, hx, hb, hml, hown, hK, hR, hlk, hnm, hg0, hres⟩ := hP
  intro H locs lsA hW hloc hl hn hz
  exact lv_bipush hx hb hd hv (k H locs lsA hW hloc hl hn hz)
theorem x_sipush (hP : IsW g i d nc ns res P) {n : Int} {v : Int32} (hd : decode i.2.1 pc = .ok (.sipush n, 3)) (hv : (Int16.ofInt n).toInt32 = v) (k : P (pc + 3) ls (.int v :: st) L M) : P pc ls (st) L M := by
  obtain ⟨p, l, e, R, s, m, args, below, meth, c, Q, n0, z0, rfl, hx, hb, hml, hown, hK, hR, hlk, hnm, hg0, hres⟩ := hP
  intro H locs lsA hW hloc hl hn hz
  exact lv_sipush hx hb hd hv (k H locs lsA hW hloc hl hn hz)
theorem x_lconst (hP : IsW g i d nc ns res P) {n : Fin 2} {v : Int64} (hd : decode i.2.1 pc = .ok (.lconst n, 1)) (hv : Int64.ofNat (n : Nat) = v) (k : P (pc + 1) ls (.long v :: st) L M) : P pc ls (st) L M := by
  obtain ⟨p, l, e, R, s, m, args, below, meth, c, Q, n0, z0, rfl, hx, hb, hml, hown, hK, hR, hlk, hnm, hg0, hres⟩ := hP
  intro H locs lsA hW hloc hl hn hz
  exact lv_lconst hx hb hd hv (k H locs lsA hW hloc hl hn hz)
theorem x_ldc (hP : IsW g i d nc ns res P) {n : Nat} {v : Int32} (hd : decode i.2.1 pc = .ok (.ldc n, 2)) (hv : Cond.constant i.1.cls n v ∈ lw_tbl) (k : P (pc + 2) ls (.int v :: st) L M) : P pc ls (st) L M := by
  obtain ⟨p, l, e, R, s, m, args, below, meth, c, Q, n0, z0, rfl, hx, hb, hml, hown, hK, hR, hlk, hnm, hg0, hres⟩ := hP
  intro H locs lsA hW hloc hl hn hz
  exact lv_ldc hx hb hown (hK.2.1.at hv rfl) hd (k H locs lsA hW hloc hl hn hz)
theorem x_ldc_w (hP : IsW g i d nc ns res P) {n : Nat} {v : Int32} (hd : decode i.2.1 pc = .ok (.ldc_w n, 3)) (hv : Cond.constant i.1.cls n v ∈ lw_tbl) (k : P (pc + 3) ls (.int v :: st) L M) : P pc ls (st) L M := by
  obtain ⟨p, l, e, R, s, m, args, below, meth, c, Q, n0, z0, rfl, hx, hb, hml, hown, hK, hR, hlk, hnm, hg0, hres⟩ := hP
  intro H locs lsA hW hloc hl hn hz
  exact lv_ldcw hx hb hown (hK.2.1.at hv rfl) hd (k H locs lsA hW hloc hl hn hz)
theorem x_ldc2 (hP : IsW g i d nc ns res P) {n : Nat} {v : Int64} (hd : decode i.2.1 pc = .ok (.ldc2_w n, 3)) (hv : Cond.constantLong i.1.cls n v ∈ lw_tbl) (k : P (pc + 3) ls (.long v :: st) L M) : P pc ls (st) L M := by
  obtain ⟨p, l, e, R, s, m, args, below, meth, c, Q, n0, z0, rfl, hx, hb, hml, hown, hK, hR, hlk, hnm, hg0, hres⟩ := hP
  intro H locs lsA hW hloc hl hn hz
  exact lv_ldc2 hx hb hown (hK.2.1.at hv rfl) hd (k H locs lsA hW hloc hl hn hz)
theorem x_iload_n (hP : IsW g i d nc ns res P) {kk : Fin 4} {x : Int32} (hd : decode i.2.1 pc = .ok (.iload_n kk, 1)) (hi : ls[(kk : Nat)]? = some (some (.int x))) (k : P (pc + 1) ls (.int x :: st) L M) : P pc ls (st) L M := by
  obtain ⟨p, l, e, R, s, m, args, below, meth, c, Q, n0, z0, rfl, hx, hb, hml, hown, hK, hR, hlk, hnm, hg0, hres⟩ := hP
  intro H locs lsA hW hloc hl hn hz
  exact lv_iload_n hx hb hd rfl (hl.2.2 _ _ hi) (k H locs lsA hW hloc hl hn hz)
theorem x_iload (hP : IsW g i d nc ns res P) {j : Nat} {x : Int32} (hd : decode i.2.1 pc = .ok (.iload j, 2)) (hi : ls[j]? = some (some (.int x))) (k : P (pc + 2) ls (.int x :: st) L M) : P pc ls (st) L M := by
  obtain ⟨p, l, e, R, s, m, args, below, meth, c, Q, n0, z0, rfl, hx, hb, hml, hown, hK, hR, hlk, hnm, hg0, hres⟩ := hP
  intro H locs lsA hW hloc hl hn hz
  exact lv_iload hx hb hd (hl.2.2 _ _ hi) (k H locs lsA hW hloc hl hn hz)
theorem x_lload_n (hP : IsW g i d nc ns res P) {kk : Fin 4} {x : Int64} (hd : decode i.2.1 pc = .ok (.lload_n kk, 1)) (hi : ls[(kk : Nat)]? = some (some (.long x))) (k : P (pc + 1) ls (.long x :: st) L M) : P pc ls (st) L M := by
  obtain ⟨p, l, e, R, s, m, args, below, meth, c, Q, n0, z0, rfl, hx, hb, hml, hown, hK, hR, hlk, hnm, hg0, hres⟩ := hP
  intro H locs lsA hW hloc hl hn hz
  exact lv_lload_n hx hb hd rfl (hl.2.2 _ _ hi) (k H locs lsA hW hloc hl hn hz)
theorem x_lload (hP : IsW g i d nc ns res P) {j : Nat} {x : Int64} (hd : decode i.2.1 pc = .ok (.lload j, 2)) (hi : ls[j]? = some (some (.long x))) (k : P (pc + 2) ls (.long x :: st) L M) : P pc ls (st) L M := by
  obtain ⟨p, l, e, R, s, m, args, below, meth, c, Q, n0, z0, rfl, hx, hb, hml, hown, hK, hR, hlk, hnm, hg0, hres⟩ := hP
  intro H locs lsA hW hloc hl hn hz
  exact lv_lload hx hb hd (hl.2.2 _ _ hi) (k H locs lsA hW hloc hl hn hz)
theorem x_aload_n (hP : IsW g i d nc ns res P) {kk : Fin 4} {x : Nat} (hd : decode i.2.1 pc = .ok (.aload_n kk, 1)) (hi : ls[(kk : Nat)]? = some (some (.ref x))) (k : P (pc + 1) ls (.ref x :: st) L M) : P pc ls (st) L M := by
  obtain ⟨p, l, e, R, s, m, args, below, meth, c, Q, n0, z0, rfl, hx, hb, hml, hown, hK, hR, hlk, hnm, hg0, hres⟩ := hP
  intro H locs lsA hW hloc hl hn hz
  exact lv_aload_n hx hb hd rfl (hl.2.2 _ _ hi) (k H locs lsA hW hloc hl hn hz)
theorem x_aload (hP : IsW g i d nc ns res P) {j : Nat} {x : Nat} (hd : decode i.2.1 pc = .ok (.aload j, 2)) (hi : ls[j]? = some (some (.ref x))) (k : P (pc + 2) ls (.ref x :: st) L M) : P pc ls (st) L M := by
  obtain ⟨p, l, e, R, s, m, args, below, meth, c, Q, n0, z0, rfl, hx, hb, hml, hown, hK, hR, hlk, hnm, hg0, hres⟩ := hP
  intro H locs lsA hW hloc hl hn hz
  exact lv_aload hx hb hd (hl.2.2 _ _ hi) (k H locs lsA hW hloc hl hn hz)
theorem x_istore_n (hP : IsW g i d nc ns res P) {kk : Fin 4} {j : Nat}  {x : Int32} {ls2 : List (Option Value)} (hd : decode i.2.1 pc = .ok (.istore_n kk, 1)) (hj : (kk : Nat) = j) (hls : st1 ls j (.int x) = ls2) (hlt : Nat.blt (j) i.2.2.1 = true) (k : P (pc + 1) ls2 st L M) : P pc ls (.int x :: st) L M := by
  obtain ⟨p, l, e, R, s, m, args, below, meth, c, Q, n0, z0, rfl, hx, hb, hml, hown, hK, hR, hlk, hnm, hg0, hres⟩ := hP
  intro H locs lsA hW hloc hl hn hz
  subst hls
  exact lv_istore_n hx hb hd hj hl.has (Nat.blt_eq.mp hlt) rfl (fun ls3 h3 => k H locs ls3 hW hloc (LV.st1 (v := .int x) rfl h3) hn hz)
theorem x_istore (hP : IsW g i d nc ns res P) {j : Nat} {x : Int32} {ls2 : List (Option Value)} (hd : decode i.2.1 pc = .ok (.istore j, 2))  (hls : st1 ls j (.int x) = ls2) (hlt : Nat.blt (j) i.2.2.1 = true) (k : P (pc + 2) ls2 st L M) : P pc ls (.int x :: st) L M := by
  obtain ⟨p, l, e, R, s, m, args, below, meth, c, Q, n0, z0, rfl, hx, hb, hml, hown, hK, hR, hlk, hnm, hg0, hres⟩ := hP
  intro H locs lsA hW hloc hl hn hz
  subst hls
  exact lv_istore hx hb hd hl.has (Nat.blt_eq.mp hlt) rfl (fun ls3 h3 => k H locs ls3 hW hloc (LV.st1 (v := .int x) rfl h3) hn hz)
theorem x_lstore_n (hP : IsW g i d nc ns res P) {kk : Fin 4} {j : Nat}  {x : Int64} {ls2 : List (Option Value)} (hd : decode i.2.1 pc = .ok (.lstore_n kk, 1)) (hj : (kk : Nat) = j) (hls : st2 ls j (.long x) = ls2) (hlt : Nat.blt (j + 1) i.2.2.1 = true) (k : P (pc + 1) ls2 st L M) : P pc ls (.long x :: st) L M := by
  obtain ⟨p, l, e, R, s, m, args, below, meth, c, Q, n0, z0, rfl, hx, hb, hml, hown, hK, hR, hlk, hnm, hg0, hres⟩ := hP
  intro H locs lsA hW hloc hl hn hz
  subst hls
  exact lv_lstore_n hx hb hd hj hl.has (Nat.blt_eq.mp hlt) rfl (fun ls3 h3 => k H locs ls3 hW hloc (LV.st2 (v := .long x) rfl h3) hn hz)
theorem x_lstore (hP : IsW g i d nc ns res P) {j : Nat} {x : Int64} {ls2 : List (Option Value)} (hd : decode i.2.1 pc = .ok (.lstore j, 2))  (hls : st2 ls j (.long x) = ls2) (hlt : Nat.blt (j + 1) i.2.2.1 = true) (k : P (pc + 2) ls2 st L M) : P pc ls (.long x :: st) L M := by
  obtain ⟨p, l, e, R, s, m, args, below, meth, c, Q, n0, z0, rfl, hx, hb, hml, hown, hK, hR, hlk, hnm, hg0, hres⟩ := hP
  intro H locs lsA hW hloc hl hn hz
  subst hls
  exact lv_lstore hx hb hd hl.has (Nat.blt_eq.mp hlt) rfl (fun ls3 h3 => k H locs ls3 hW hloc (LV.st2 (v := .long x) rfl h3) hn hz)
theorem x_astore_n (hP : IsW g i d nc ns res P) {kk : Fin 4} {j : Nat}  {x : Nat} {ls2 : List (Option Value)} (hd : decode i.2.1 pc = .ok (.astore_n kk, 1)) (hj : (kk : Nat) = j) (hls : st1 ls j (.ref x) = ls2) (hlt : Nat.blt (j) i.2.2.1 = true) (k : P (pc + 1) ls2 st L M) : P pc ls (.ref x :: st) L M := by
  obtain ⟨p, l, e, R, s, m, args, below, meth, c, Q, n0, z0, rfl, hx, hb, hml, hown, hK, hR, hlk, hnm, hg0, hres⟩ := hP
  intro H locs lsA hW hloc hl hn hz
  subst hls
  exact lv_astore_n hx hb hd hj hl.has (Nat.blt_eq.mp hlt) rfl (fun ls3 h3 => k H locs ls3 hW hloc (LV.st1 (v := .ref x) rfl h3) hn hz)
theorem x_astore (hP : IsW g i d nc ns res P) {j : Nat} {x : Nat} {ls2 : List (Option Value)} (hd : decode i.2.1 pc = .ok (.astore j, 2))  (hls : st1 ls j (.ref x) = ls2) (hlt : Nat.blt (j) i.2.2.1 = true) (k : P (pc + 2) ls2 st L M) : P pc ls (.ref x :: st) L M := by
  obtain ⟨p, l, e, R, s, m, args, below, meth, c, Q, n0, z0, rfl, hx, hb, hml, hown, hK, hR, hlk, hnm, hg0, hres⟩ := hP
  intro H locs lsA hW hloc hl hn hz
  subst hls
  exact lv_astore hx hb hd hl.has (Nat.blt_eq.mp hlt) rfl (fun ls3 h3 => k H locs ls3 hW hloc (LV.st1 (v := .ref x) rfl h3) hn hz)
theorem x_iinc (hP : IsW g i d nc ns res P) {j : Nat} {n : Int} {x v : Int32} {ls2 : List (Option Value)} (hd : decode i.2.1 pc = .ok (.iinc j n, 3)) (hi : ls[j]? = some (some (.int x))) (hv : x + Int32.ofInt n = v) (hls : st1 ls j (.int v) = ls2) (hlt : Nat.blt j i.2.2.1 = true) (k : P (pc + 3) ls2 st L M) : P pc ls st L M := by
  obtain ⟨p, l, e, R, s, m, args, below, meth, c, Q, n0, z0, rfl, hx, hb, hml, hown, hK, hR, hlk, hnm, hg0, hres⟩ := hP
  intro H locs lsA hW hloc hl hn hz
  subst hls
  obtain ⟨q, hq⟩ := List.getElem?_of_mem (asc_mem (g := g) (q := (j, .int x)).mpr ⟨.int x, hi, rfl⟩)
  exact lv_iinc hx hb hd hl.has hq hv (Nat.blt_eq.mp hlt) rfl (fun ls3 h3 => k H locs ls3 hW hloc (LV.st1 (v := .int v) rfl h3) hn hz)
theorem x_dup (hP : IsW g i d nc ns res P) {v : Value} (hd : decode i.2.1 pc = .ok (.dup, 1)) (hc : v.category = 1) (k : P (pc + 1) ls (v :: v :: st) L M) : P pc ls (v :: st) L M := by
  obtain ⟨p, l, e, R, s, m, args, below, meth, c, Q, n0, z0, rfl, hx, hb, hml, hown, hK, hR, hlk, hnm, hg0, hres⟩ := hP
  intro H locs lsA hW hloc hl hn hz
  exact lv_dup hx hb hd ((cv_cat g v).trans hc) (k H locs lsA hW hloc hl hn hz)
theorem x_pop (hP : IsW g i d nc ns res P) {v : Value} (hd : decode i.2.1 pc = .ok (.pop, 1)) (hc : v.category = 1) (k : P (pc + 1) ls (st) L M) : P pc ls (v :: st) L M := by
  obtain ⟨p, l, e, R, s, m, args, below, meth, c, Q, n0, z0, rfl, hx, hb, hml, hown, hK, hR, hlk, hnm, hg0, hres⟩ := hP
  intro H locs lsA hW hloc hl hn hz
  exact lv_pop hx hb hd ((cv_cat g v).trans hc) (k H locs lsA hW hloc hl hn hz)
theorem x_dup_x1 (hP : IsW g i d nc ns res P) {v u : Value} (hd : decode i.2.1 pc = .ok (.dup_x1, 1)) (hc : v.category = 1) (hc2 : u.category = 1) (k : P (pc + 1) ls (v :: u :: v :: st) L M) : P pc ls (v :: u :: st) L M := by
  obtain ⟨p, l, e, R, s, m, args, below, meth, c, Q, n0, z0, rfl, hx, hb, hml, hown, hK, hR, hlk, hnm, hg0, hres⟩ := hP
  intro H locs lsA hW hloc hl hn hz
  exact lv_dup_x1 hx hb hd ((cv_cat g v).trans hc) ((cv_cat g u).trans hc2) (k H locs lsA hW hloc hl hn hz)
theorem x_dup2 (hP : IsW g i d nc ns res P) {v u : Value} (hd : decode i.2.1 pc = .ok (.dup2, 1)) (hc : v.category = 1) (hc2 : u.category = 1) (k : P (pc + 1) ls (v :: u :: v :: u :: st) L M) : P pc ls (v :: u :: st) L M := by
  obtain ⟨p, l, e, R, s, m, args, below, meth, c, Q, n0, z0, rfl, hx, hb, hml, hown, hK, hR, hlk, hnm, hg0, hres⟩ := hP
  intro H locs lsA hW hloc hl hn hz
  exact lv_dup2_11 hx hb hd ((cv_cat g v).trans hc) ((cv_cat g u).trans hc2) (k H locs lsA hW hloc hl hn hz)
theorem x_if_eq (hP : IsW g i d nc ns res P) {x : Int32} {off : Int} {tgt : Nat} (hd : decode i.2.1 pc = .ok (.ifCond .eq off, 3)) (ht : (pc : Int) + off = (tgt : Int)) (kt : x = 0 → P tgt ls st L M) (kf : ¬ x = 0 → P (pc + 3) ls st L M) : P pc ls (.int x :: st) L M := by
  obtain ⟨p, l, e, R, s, m, args, below, meth, c, Q, n0, z0, rfl, hx, hb, hml, hown, hK, hR, hlk, hnm, hg0, hres⟩ := hP
  intro H locs lsA hW hloc hl hn hz
  exact lv_if_eq hx hb hd ht (fun h => kt h H locs lsA hW hloc hl hn hz) (fun h => kf h H locs lsA hW hloc hl hn hz)
theorem x_icmp_eq (hP : IsW g i d nc ns res P) {x y : Int32} {off : Int} {tgt : Nat} (hd : decode i.2.1 pc = .ok (.if_icmp .eq off, 3)) (ht : (pc : Int) + off = (tgt : Int)) (kt : x = y → P tgt ls st L M) (kf : ¬ x = y → P (pc + 3) ls st L M) : P pc ls (.int y :: .int x :: st) L M := by
  obtain ⟨p, l, e, R, s, m, args, below, meth, c, Q, n0, z0, rfl, hx, hb, hml, hown, hK, hR, hlk, hnm, hg0, hres⟩ := hP
  intro H locs lsA hW hloc hl hn hz
  exact lv_icmp_eq hx hb hd ht (fun h => kt h H locs lsA hW hloc hl hn hz) (fun h => kf h H locs lsA hW hloc hl hn hz)
theorem x_if_ne (hP : IsW g i d nc ns res P) {x : Int32} {off : Int} {tgt : Nat} (hd : decode i.2.1 pc = .ok (.ifCond .ne off, 3)) (ht : (pc : Int) + off = (tgt : Int)) (kt : ¬ x = 0 → P tgt ls st L M) (kf : x = 0 → P (pc + 3) ls st L M) : P pc ls (.int x :: st) L M := by
  obtain ⟨p, l, e, R, s, m, args, below, meth, c, Q, n0, z0, rfl, hx, hb, hml, hown, hK, hR, hlk, hnm, hg0, hres⟩ := hP
  intro H locs lsA hW hloc hl hn hz
  exact lv_if_ne hx hb hd ht (fun h => kt h H locs lsA hW hloc hl hn hz) (fun h => kf h H locs lsA hW hloc hl hn hz)
theorem x_icmp_ne (hP : IsW g i d nc ns res P) {x y : Int32} {off : Int} {tgt : Nat} (hd : decode i.2.1 pc = .ok (.if_icmp .ne off, 3)) (ht : (pc : Int) + off = (tgt : Int)) (kt : ¬ x = y → P tgt ls st L M) (kf : x = y → P (pc + 3) ls st L M) : P pc ls (.int y :: .int x :: st) L M := by
  obtain ⟨p, l, e, R, s, m, args, below, meth, c, Q, n0, z0, rfl, hx, hb, hml, hown, hK, hR, hlk, hnm, hg0, hres⟩ := hP
  intro H locs lsA hW hloc hl hn hz
  exact lv_icmp_ne hx hb hd ht (fun h => kt h H locs lsA hW hloc hl hn hz) (fun h => kf h H locs lsA hW hloc hl hn hz)
theorem x_if_lt (hP : IsW g i d nc ns res P) {x : Int32} {off : Int} {tgt : Nat} (hd : decode i.2.1 pc = .ok (.ifCond .lt off, 3)) (ht : (pc : Int) + off = (tgt : Int)) (kt : x < 0 → P tgt ls st L M) (kf : ¬ x < 0 → P (pc + 3) ls st L M) : P pc ls (.int x :: st) L M := by
  obtain ⟨p, l, e, R, s, m, args, below, meth, c, Q, n0, z0, rfl, hx, hb, hml, hown, hK, hR, hlk, hnm, hg0, hres⟩ := hP
  intro H locs lsA hW hloc hl hn hz
  exact lv_if_lt hx hb hd ht (fun h => kt h H locs lsA hW hloc hl hn hz) (fun h => kf h H locs lsA hW hloc hl hn hz)
theorem x_icmp_lt (hP : IsW g i d nc ns res P) {x y : Int32} {off : Int} {tgt : Nat} (hd : decode i.2.1 pc = .ok (.if_icmp .lt off, 3)) (ht : (pc : Int) + off = (tgt : Int)) (kt : x < y → P tgt ls st L M) (kf : ¬ x < y → P (pc + 3) ls st L M) : P pc ls (.int y :: .int x :: st) L M := by
  obtain ⟨p, l, e, R, s, m, args, below, meth, c, Q, n0, z0, rfl, hx, hb, hml, hown, hK, hR, hlk, hnm, hg0, hres⟩ := hP
  intro H locs lsA hW hloc hl hn hz
  exact lv_icmp_lt hx hb hd ht (fun h => kt h H locs lsA hW hloc hl hn hz) (fun h => kf h H locs lsA hW hloc hl hn hz)
theorem x_if_ge (hP : IsW g i d nc ns res P) {x : Int32} {off : Int} {tgt : Nat} (hd : decode i.2.1 pc = .ok (.ifCond .ge off, 3)) (ht : (pc : Int) + off = (tgt : Int)) (kt : 0 ≤ x → P tgt ls st L M) (kf : ¬ 0 ≤ x → P (pc + 3) ls st L M) : P pc ls (.int x :: st) L M := by
  obtain ⟨p, l, e, R, s, m, args, below, meth, c, Q, n0, z0, rfl, hx, hb, hml, hown, hK, hR, hlk, hnm, hg0, hres⟩ := hP
  intro H locs lsA hW hloc hl hn hz
  exact lv_if_ge hx hb hd ht (fun h => kt h H locs lsA hW hloc hl hn hz) (fun h => kf h H locs lsA hW hloc hl hn hz)
theorem x_icmp_ge (hP : IsW g i d nc ns res P) {x y : Int32} {off : Int} {tgt : Nat} (hd : decode i.2.1 pc = .ok (.if_icmp .ge off, 3)) (ht : (pc : Int) + off = (tgt : Int)) (kt : y ≤ x → P tgt ls st L M) (kf : ¬ y ≤ x → P (pc + 3) ls st L M) : P pc ls (.int y :: .int x :: st) L M := by
  obtain ⟨p, l, e, R, s, m, args, below, meth, c, Q, n0, z0, rfl, hx, hb, hml, hown, hK, hR, hlk, hnm, hg0, hres⟩ := hP
  intro H locs lsA hW hloc hl hn hz
  exact lv_icmp_ge hx hb hd ht (fun h => kt h H locs lsA hW hloc hl hn hz) (fun h => kf h H locs lsA hW hloc hl hn hz)
theorem x_if_gt (hP : IsW g i d nc ns res P) {x : Int32} {off : Int} {tgt : Nat} (hd : decode i.2.1 pc = .ok (.ifCond .gt off, 3)) (ht : (pc : Int) + off = (tgt : Int)) (kt : 0 < x → P tgt ls st L M) (kf : ¬ 0 < x → P (pc + 3) ls st L M) : P pc ls (.int x :: st) L M := by
  obtain ⟨p, l, e, R, s, m, args, below, meth, c, Q, n0, z0, rfl, hx, hb, hml, hown, hK, hR, hlk, hnm, hg0, hres⟩ := hP
  intro H locs lsA hW hloc hl hn hz
  exact lv_if_gt hx hb hd ht (fun h => kt h H locs lsA hW hloc hl hn hz) (fun h => kf h H locs lsA hW hloc hl hn hz)
theorem x_icmp_gt (hP : IsW g i d nc ns res P) {x y : Int32} {off : Int} {tgt : Nat} (hd : decode i.2.1 pc = .ok (.if_icmp .gt off, 3)) (ht : (pc : Int) + off = (tgt : Int)) (kt : y < x → P tgt ls st L M) (kf : ¬ y < x → P (pc + 3) ls st L M) : P pc ls (.int y :: .int x :: st) L M := by
  obtain ⟨p, l, e, R, s, m, args, below, meth, c, Q, n0, z0, rfl, hx, hb, hml, hown, hK, hR, hlk, hnm, hg0, hres⟩ := hP
  intro H locs lsA hW hloc hl hn hz
  exact lv_icmp_gt hx hb hd ht (fun h => kt h H locs lsA hW hloc hl hn hz) (fun h => kf h H locs lsA hW hloc hl hn hz)
theorem x_if_le (hP : IsW g i d nc ns res P) {x : Int32} {off : Int} {tgt : Nat} (hd : decode i.2.1 pc = .ok (.ifCond .le off, 3)) (ht : (pc : Int) + off = (tgt : Int)) (kt : x ≤ 0 → P tgt ls st L M) (kf : ¬ x ≤ 0 → P (pc + 3) ls st L M) : P pc ls (.int x :: st) L M := by
  obtain ⟨p, l, e, R, s, m, args, below, meth, c, Q, n0, z0, rfl, hx, hb, hml, hown, hK, hR, hlk, hnm, hg0, hres⟩ := hP
  intro H locs lsA hW hloc hl hn hz
  exact lv_if_le hx hb hd ht (fun h => kt h H locs lsA hW hloc hl hn hz) (fun h => kf h H locs lsA hW hloc hl hn hz)
theorem x_icmp_le (hP : IsW g i d nc ns res P) {x y : Int32} {off : Int} {tgt : Nat} (hd : decode i.2.1 pc = .ok (.if_icmp .le off, 3)) (ht : (pc : Int) + off = (tgt : Int)) (kt : x ≤ y → P tgt ls st L M) (kf : ¬ x ≤ y → P (pc + 3) ls st L M) : P pc ls (.int y :: .int x :: st) L M := by
  obtain ⟨p, l, e, R, s, m, args, below, meth, c, Q, n0, z0, rfl, hx, hb, hml, hown, hK, hR, hlk, hnm, hg0, hres⟩ := hP
  intro H locs lsA hW hloc hl hn hz
  exact lv_icmp_le hx hb hd ht (fun h => kt h H locs lsA hW hloc hl hn hz) (fun h => kf h H locs lsA hW hloc hl hn hz)
theorem x_goto (hP : IsW g i d nc ns res P) {off : Int} {tgt : Nat} (hd : decode i.2.1 pc = .ok (.goto off, 3)) (ht : (pc : Int) + off = (tgt : Int)) (k : P tgt ls st L M) : P pc ls st L M := by
  obtain ⟨p, l, e, R, s, m, args, below, meth, c, Q, n0, z0, rfl, hx, hb, hml, hown, hK, hR, hlk, hnm, hg0, hres⟩ := hP
  intro H locs lsA hW hloc hl hn hz
  exact lv_goto hx hb hd ht (k H locs lsA hW hloc hl hn hz)
theorem x_tableIn (hP : IsW g i d nc ns res P) {dflt lo hi : Int} {offs : Array Int} {len : Nat} {x : Int32} {off : Int} {tgt : Nat} (hd : decode i.2.1 pc = .ok (.tableswitch dflt lo hi offs, len)) (h1 : ¬ x.toInt < lo) (h2 : ¬ hi < x.toInt) (ho : offs[(x.toInt - lo).toNat]? = some off) (ht : (pc : Int) + off = (tgt : Int)) (k : P tgt ls st L M) : P pc ls (.int x :: st) L M := by
  obtain ⟨p, l, e, R, s, m, args, below, meth, c, Q, n0, z0, rfl, hx, hb, hml, hown, hK, hR, hlk, hnm, hg0, hres⟩ := hP
  intro H locs lsA hW hloc hl hn hz
  exact lv_tableIn hx hb hd h1 h2 ho ht (k H locs lsA hW hloc hl hn hz)
theorem x_tableOut (hP : IsW g i d nc ns res P) {dflt lo hi : Int} {offs : Array Int} {len : Nat} {x : Int32} {tgt : Nat} (hd : decode i.2.1 pc = .ok (.tableswitch dflt lo hi offs, len)) (h : x.toInt < lo ∨ hi < x.toInt) (ht : (pc : Int) + dflt = (tgt : Int)) (k : P tgt ls st L M) : P pc ls (.int x :: st) L M := by
  obtain ⟨p, l, e, R, s, m, args, below, meth, c, Q, n0, z0, rfl, hx, hb, hml, hown, hK, hR, hlk, hnm, hg0, hres⟩ := hP
  intro H locs lsA hW hloc hl hn hz
  exact lv_tableOut hx hb hd h ht (k H locs lsA hW hloc hl hn hz)
theorem x_lookup (hP : IsW g i d nc ns res P) {dflt : Int} {ps : Array (Int × Int)} {len : Nat} {x : Int32} {off : Int} {tgt : Nat} (hd : decode i.2.1 pc = .ok (.lookupswitch dflt ps, len)) (hp : (ps.toList.zip (ps.toList.drop 1)).all (fun (a, next) => a.1 < next.1) = true) (ho : Op.lookupswitch.offset ps.toList dflt x.toInt = off) (ht : (pc : Int) + off = (tgt : Int)) (k : P tgt ls st L M) : P pc ls (.int x :: st) L M := by
  obtain ⟨p, l, e, R, s, m, args, below, meth, c, Q, n0, z0, rfl, hx, hb, hml, hown, hK, hR, hlk, hnm, hg0, hres⟩ := hP
  intro H locs lsA hW hloc hl hn hz
  exact lv_lookup hx hb hd hp ho ht (k H locs lsA hW hloc hl hn hz)
theorem x_lcmp (hP : IsW g i d nc ns res P) {x y : Int64} (hd : decode i.2.1 pc = .ok (.lcmp, 1)) (k : P (pc + 1) ls (.int (lg_cmp x y) :: st) L M) : P pc ls (.long y :: .long x :: st) L M := by
  obtain ⟨p, l, e, R, s, m, args, below, meth, c, Q, n0, z0, rfl, hx, hb, hml, hown, hK, hR, hlk, hnm, hg0, hres⟩ := hP
  intro H locs lsA hW hloc hl hn hz
  exact W.lcmp hx hb hd (k H locs lsA hW hloc hl hn hz)
/-- fewer locals are known -/
def leL : List (Option Value) → List (Option Value) → Prop
  | [], _ => True
  | none :: a, _ :: b => leL a b
  | none :: a, [] => leL a []
  | some v :: a, o :: b => o = some v ∧ leL a b
  | some _ :: _, [] => False
theorem leL_at : ∀ (a b : List (Option Value)), leL a b → ∀ (j : Nat) (v : Value), a[j]? = some (some v) → b[j]? = some (some v)
  | [], _, _, j, v, h => by simp at h
  | none :: a, o :: b, hle, 0, v, h => by simp at h
  | none :: a, o :: b, hle, j + 1, v, h => by simpa using leL_at a b hle j v (by simpa using h)
  | none :: a, [], hle, 0, v, h => by simp at h
  | none :: a, [], hle, j + 1, v, h => by
    have := leL_at a [] hle j v (by simpa using h)
    simp at this
  | some x :: a, o :: b, hle, 0, v, h => by
    obtain ⟨h1, -⟩ := hle
    simp at h
    simp [h1, h]
  | some x :: a, o :: b, hle, j + 1, v, h => by simpa using leL_at a b hle.2 j v (by simpa using h)
theorem x_drop (hP : IsW g i d nc ns res P) (ls2 : List (Option Value)) (hle : leL ls2 ls) (k : P pc ls2 st L M) : P pc ls st L M := by
  obtain ⟨p, l, e, R, s, m, args, below, meth, c, Q, n0, z0, rfl, hx, hb, hml, hown, hK, hR, hlk, hnm, hg0, hres⟩ := hP
  intro H locs lsA hW hloc hl hn hz
  exact k H locs lsA hW hloc ⟨hl.1, hl.2.1, fun j v hj => hl.2.2 j v (leL_at _ _ hle j v hj)⟩ hn hz
end RULES

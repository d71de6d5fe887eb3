-- 15.law: the law's loop (by program: wip/whole/gen/lawgen.py)
abbrev iL_law : MI := (x, code, 4, some .boolean, 1)
def xg (SL : Nat) (xs : Nat → Int32) (i : Int32) : Option Int32 := if i < 0 ∨ SL ≤ i.toNatClampNeg then none else some (xs i.toNatClampNeg)
theorem b_xg {β : Type} {r : β} {SL : Nat} {xs : Nat → Int32} {i : Int32} {f : Int32 → Option β} (h : (xg SL xs i).bind f = some r) : ∃ v, vp_in i SL ∧ v = xs i.toNatClampNeg ∧ f v = some r := by
  unfold xg at h
  split at h
  · cases h
  · next hc => exact ⟨_, hc, rfl, h⟩
theorem IsW.weaken {g : GG} {i : MI} {d nc ns nc2 ns2 : Nat} {res : Option RS} {P : PT} (hP : IsW g i d nc ns res P) (h1 : nc2 ≤ nc) (h2 : ns2 ≤ ns) : IsW g i d nc2 ns2 res P := by
  obtain ⟨p, l, e, R, s, m, args, below, meth, c, Q, n0, z0, rfl, hx, hb, hml, hown, hK, hR, hlk, hnm, hg0, hres⟩ := hP
  exact ⟨p, l, e, R, s, m, args, below, meth, c, Q, n0, z0, rfl, hx, hb, hml, hown, hK, ⟨hR.1, hR.2.1, by omega, by omega⟩, hlk, hnm, hg0, hres⟩
section LAWR
variable {g : GG} {i : MI} {d nc ns : Nat} {res : Option RS} {P : PT} {pc : Nat} {ls : List (Option Value)} {st : List Value} {L : List Lay} {M : Mem} {SL : Nat} {xs : Nat → Int32}
theorem x_aloadX (hP : IsW g i d nc ns res P) {kk : Fin 4} (hd : decode i.2.1 pc = .ok (.aload_n kk, 1)) (hi : ls[(kk : Nat)]? = some (some (.retAddr 9))) (k : P (pc + 1) ls (.retAddr 9 :: st) L M) : P pc ls st L M := by
  obtain ⟨p, l, e, R, s, m, args, below, meth, c, Q, n0, z0, rfl, hx, hb, hml, hown, hK, hR, hlk, hnm, hg0, hres⟩ := hP
  intro H locs lsA hW hloc hl hn hz
  obtain ⟨-, -, -, -, b, h0, -, -⟩ := hK.2.2
  have h5 := k H locs lsA hW hloc hl hn hz
  rw [List.map_cons, svr h0] at h5
  have h6 := hl.2.2 _ _ hi
  rw [svr h0] at h6
  exact lv_aload_n hx hb hd rfl h6 h5
theorem x_xlen (hS : g.2.2.2.2 = (SL, xs)) (hP : IsW g i d nc ns res P) (hd : decode i.2.1 pc = .ok (.arraylength, 1)) (k : P (pc + 1) ls (.int (Int32.ofNat SL) :: st) L M) : P pc ls (.retAddr 9 :: st) L M := by
  obtain ⟨p, l, e, R, s, m, args, below, meth, c, Q, n0, z0, rfl, hx, hb, hml, hown, hK, hR, hlk, hnm, hg0, hres⟩ := hP
  intro H locs lsA hW hloc hl hn hz
  obtain ⟨-, -, -, -, b, h0, hlt, hX⟩ := hK.2.2
  rw [hS] at hX
  obtain ⟨scr, h1, h2, h3, h4, h5⟩ := va_X.kept hX (hW.2.1 b hlt)
  rw [List.map_cons, svr h0]
  exact W.alen (n := Int32.ofNat SL) hx hb h1 h2 (by rw [h4] <;> rfl) rfl rfl hd (k H locs lsA hW hloc hl hn hz)
theorem x_xld (hS : g.2.2.2.2 = (SL, xs)) (hP : IsW g i d nc ns res P) {x v : Int32} (hin : vp_in x SL) (hv : v = xs x.toNatClampNeg) (hd : decode i.2.1 pc = .ok (.iaload, 1)) (k : P (pc + 1) ls (.int v :: st) L M) : P pc ls (.int x :: .retAddr 9 :: st) L M := by
  obtain ⟨p, l, e, R, s, m, args, below, meth, c, Q, n0, z0, rfl, hx, hb, hml, hown, hK, hR, hlk, hnm, hg0, hres⟩ := hP
  intro H locs lsA hW hloc hl hn hz
  obtain ⟨-, -, -, -, b, h0, hlt, hX⟩ := hK.2.2
  rw [hS] at hX
  obtain ⟨scr, h1, h2, h3, h4, h5⟩ := va_X.kept hX (hW.2.1 b hlt)
  rw [List.map_cons, List.map_cons, svr h0]
  subst hv
  have hlt2 : x.toNatClampNeg < SL := Nat.not_le.mp fun q => hin (Or.inr q)
  exact W.iald (v := .int (xs x.toNatClampNeg)) hx hb h1 h2 h3 (by rw [h4]; exact hin) (h5 _ hlt2) rfl rfl hd (k H locs lsA hW hloc hl hn hz)
end LAWR
def law_L (SL : Nat) (xs : Nat → Int32) : Nat → Int32 → Mem → Option Unit
  | 0, _, _ => none
  | fu + 1, l3, M =>
    if (Int32.ofNat SL) - (6 : Int32) < l3 then
      some ()
    else
      (xg SL xs l3).bind fun v2 =>
      lt (v2 &&& (63 : Int32) : Int32) fun v3 =>
      if v3 = 0 then
        (xg SL xs (l3 + (1 : Int32))).bind fun v5 =>
        (xg SL xs (l3 + (2 : Int32))).bind fun v6 =>
        (xg SL xs (l3 + (3 : Int32))).bind fun v7 =>
        (xg SL xs (l3 + (4 : Int32))).bind fun v8 =>
        (xg SL xs (l3 + (5 : Int32))).bind fun v9 =>
        (f_X11_feed v5 v6 v7 v8 v9 M).bind fun t11 =>
        (xg SL xs (l3 + (1 : Int32))).bind fun v12 =>
        (xg SL xs (l3 + (2 : Int32))).bind fun v13 =>
        (xg SL xs (l3 + (3 : Int32))).bind fun v14 =>
        (xg SL xs (l3 + (4 : Int32))).bind fun v15 =>
        (xg SL xs (l3 + (5 : Int32))).bind fun v16 =>
        (f_X12_feed v12 v13 v14 v15 v16 t11.2).bind fun t18 =>
        if t11.1 = t18.1 then
          lt (l3 + 6 : Int32) fun v20 =>
          law_L SL xs fu v20 t18.2
        else
          none
      else
      if v3 = 1 then
        (xg SL xs (l3 + (1 : Int32))).bind fun v22 =>
        (f_X11_back v22 M).bind fun t24 =>
        (xg SL xs (l3 + (1 : Int32))).bind fun v25 =>
        (f_X12_back v25 t24.2).bind fun t27 =>
        if t24.1 = t27.1 then
          lt (l3 + 6 : Int32) fun v29 =>
          law_L SL xs fu v29 t27.2
        else
          none
      else
      if v3 = 2 then
        (f_X11_read M).bind fun t32 =>
        (f_X12_read t32.2).bind fun t34 =>
        if t32.1 = t34.1 then
          lt (l3 + 6 : Int32) fun v36 =>
          law_L SL xs fu v36 t34.2
        else
          none
      else
      if v3 = 3 then
        (f_X11_place M).bind fun v39 =>
        (f_X12_place M).bind fun v41 =>
        if v39 = v41 then
          lt (l3 + 6 : Int32) fun v43 =>
          law_L SL xs fu v43 M
        else
          none
      else
      if v3 = 4 then
        (xg SL xs (l3 + (1 : Int32))).bind fun v45 =>
        (xg SL xs (l3 + (2 : Int32))).bind fun v46 =>
        (f_X11_corner v45 v46 M).bind fun v48 =>
        (xg SL xs (l3 + (1 : Int32))).bind fun v49 =>
        (xg SL xs (l3 + (2 : Int32))).bind fun v50 =>
        (f_X12_corner v49 v50 M).bind fun t52 =>
        if v48 = t52.1 then
          lt (l3 + 6 : Int32) fun v54 =>
          law_L SL xs fu v54 t52.2
        else
          none
      else
      if v3 = 5 then
        (xg SL xs (l3 + (1 : Int32))).bind fun v56 =>
        (xg SL xs (l3 + (2 : Int32))).bind fun v57 =>
        (f_X11_street v56 v57 M).bind fun v59 =>
        (xg SL xs (l3 + (1 : Int32))).bind fun v60 =>
        (xg SL xs (l3 + (2 : Int32))).bind fun v61 =>
        (f_X12_street v60 v61 M).bind fun t63 =>
        if v59 = t63.1 then
          lt (l3 + 6 : Int32) fun v65 =>
          law_L SL xs fu v65 t63.2
        else
          none
      else
      if v3 = 6 then
        (xg SL xs (l3 + (1 : Int32))).bind fun v67 =>
        (xg SL xs (l3 + (2 : Int32))).bind fun v68 =>
        (f_X11_young v67 v68 M).bind fun t70 =>
        (xg SL xs (l3 + (1 : Int32))).bind fun v71 =>
        (xg SL xs (l3 + (2 : Int32))).bind fun v72 =>
        (f_X12_young v71 v72 t70.2).bind fun t74 =>
        if t70.1 = t74.1 then
          lt (l3 + 6 : Int32) fun v76 =>
          law_L SL xs fu v76 t74.2
        else
          none
      else
      if v3 = 7 then
        (xg SL xs (l3 + (1 : Int32))).bind fun v78 =>
        (xg SL xs (l3 + (2 : Int32))).bind fun v79 =>
        (f_X11_word v78 v79 M).bind fun v81 =>
        (xg SL xs (l3 + (1 : Int32))).bind fun v82 =>
        (xg SL xs (l3 + (2 : Int32))).bind fun v83 =>
        (f_X12_word_ v82 v83 M).bind fun v85 =>
        if v81 = v85 then
          lt (l3 + 6 : Int32) fun v87 =>
          law_L SL xs fu v87 M
        else
          none
      else
      if v3 = 8 then
        (xg SL xs (l3 + (1 : Int32))).bind fun v89 =>
        (xg SL xs (l3 + (2 : Int32))).bind fun v90 =>
        (xg SL xs (l3 + (3 : Int32))).bind fun v91 =>
        (f_X11_tells v89 v90 v91 M).bind fun t93 =>
        (xg SL xs (l3 + (1 : Int32))).bind fun v94 =>
        (xg SL xs (l3 + (2 : Int32))).bind fun v95 =>
        (xg SL xs (l3 + (3 : Int32))).bind fun v96 =>
        (f_X12_tells v94 v95 v96 t93.2).bind fun t98 =>
        if t93.1 = t98.1 then
          lt (l3 + 6 : Int32) fun v100 =>
          law_L SL xs fu v100 t98.2
        else
          none
      else
      if v3 = 9 then
        (xg SL xs (l3 + (1 : Int32))).bind fun v102 =>
        (f_X11_step v102 M).bind fun t104 =>
        (xg SL xs (l3 + (1 : Int32))).bind fun v105 =>
        (f_X12_step v105 t104.2).bind fun t107 =>
        if t104.1 = t107.1 then
          lt (l3 + 6 : Int32) fun v109 =>
          law_L SL xs fu v109 t107.2
        else
          none
      else
      if v3 = 10 then
        (xg SL xs (l3 + (1 : Int32))).bind fun v111 =>
        (xg SL xs (l3 + (2 : Int32))).bind fun v112 =>
        (f_X11_say v111 v112 M).bind fun t114 =>
        (xg SL xs (l3 + (1 : Int32))).bind fun v115 =>
        (xg SL xs (l3 + (2 : Int32))).bind fun v116 =>
        (f_X12_say v115 v116 t114.2).bind fun t118 =>
        if t114.1 = t118.1 then
          lt (l3 + 6 : Int32) fun v120 =>
          law_L SL xs fu v120 t118.2
        else
          none
      else
      if v3 = 11 then
        (xg SL xs (l3 + (1 : Int32))).bind fun v122 =>
        (xg SL xs (l3 + (2 : Int32))).bind fun v123 =>
        (f_X11_move v122 v123 M).bind fun t125 =>
        (xg SL xs (l3 + (1 : Int32))).bind fun v126 =>
        (xg SL xs (l3 + (2 : Int32))).bind fun v127 =>
        (f_X12_move v126 v127 t125.2).bind fun t129 =>
        if t125.1 = t129.1 then
          lt (l3 + 6 : Int32) fun v131 =>
          law_L SL xs fu v131 t129.2
        else
          none
      else
      if v3 = 12 then
        (xg SL xs (l3 + (1 : Int32))).bind fun v133 =>
        (f_X11_rouge v133 M).bind fun t135 =>
        (xg SL xs (l3 + (1 : Int32))).bind fun v136 =>
        (f_X12_rouge v136 t135.2).bind fun t138 =>
        if t135.1 = t138.1 then
          lt (l3 + 6 : Int32) fun v140 =>
          law_L SL xs fu v140 t138.2
        else
          none
      else
      if v3 = 13 then
        (xg SL xs (l3 + (1 : Int32))).bind fun v142 =>
        (f_X11_hours v142 M).bind fun t144 =>
        (xg SL xs (l3 + (1 : Int32))).bind fun v145 =>
        (f_X12_hours v145 t144.2).bind fun t147 =>
        if t144.1 = t147.1 then
          lt (l3 + 6 : Int32) fun v149 =>
          law_L SL xs fu v149 t147.2
        else
          none
      else
      if v3 = 14 then
        (f_X11_undo M).bind fun t152 =>
        (f_X12_undo t152.2).bind fun t154 =>
        if t152.1 = t154.1 then
          lt (l3 + 6 : Int32) fun v156 =>
          law_L SL xs fu v156 t154.2
        else
          none
      else
      if v3 = 15 then
        (xg SL xs (l3 + (1 : Int32))).bind fun v158 =>
        (f_X11_darkens v158 M).bind fun t160 =>
        (xg SL xs (l3 + (1 : Int32))).bind fun v161 =>
        (f_X12_darkens v161 t160.2).bind fun t163 =>
        if t160.1 = t163.1 then
          lt (l3 + 6 : Int32) fun v165 =>
          law_L SL xs fu v165 t163.2
        else
          none
      else
      if v3 = 16 then
        (xg SL xs (l3 + (1 : Int32))).bind fun v167 =>
        (f_X11_best v167 M).bind fun t169 =>
        (xg SL xs (l3 + (1 : Int32))).bind fun v170 =>
        (f_X12_best v170 t169.2).bind fun t172 =>
        if t169.1 = t172.1 then
          lt (l3 + 6 : Int32) fun v174 =>
          law_L SL xs fu v174 t172.2
        else
          none
      else
      if v3 = 17 then
        (xg SL xs (l3 + (1 : Int32))).bind fun v176 =>
        (xg SL xs (l3 + (2 : Int32))).bind fun v177 =>
        (f_X11_telling v176 v177 M).bind fun t179 =>
        (xg SL xs (l3 + (1 : Int32))).bind fun v180 =>
        (xg SL xs (l3 + (2 : Int32))).bind fun v181 =>
        (f_X12_telling v180 v181 t179.2).bind fun t183 =>
        if t179.1 = t183.1 then
          lt (l3 + 6 : Int32) fun v185 =>
          law_L SL xs fu v185 t183.2
        else
          none
      else
      if v3 = 18 then
        (f_X11_keep M).bind fun t188 =>
        (f_X12_keep t188.2).bind fun t190 =>
        if t188.1 = t190.1 then
          lt (l3 + 6 : Int32) fun v192 =>
          law_L SL xs fu v192 t190.2
        else
          none
      else
      if v3 = 19 then
        (xg SL xs (l3 + (1 : Int32))).bind fun v194 =>
        (xg SL xs (l3 + (2 : Int32))).bind fun v195 =>
        (f_X11_steps v194 v195 M).bind fun t197 =>
        (xg SL xs (l3 + (1 : Int32))).bind fun v198 =>
        (xg SL xs (l3 + (2 : Int32))).bind fun v199 =>
        (f_X12_steps v198 v199 t197.2).bind fun t201 =>
        if t197.1 = t201.1 then
          lt (l3 + 6 : Int32) fun v203 =>
          law_L SL xs fu v203 t201.2
        else
          none
      else
      if v3 = 20 then
        (f_X11_round M).bind fun t206 =>
        (f_X12_round t206.2).bind fun t208 =>
        if t206.1 = t208.1 then
          lt (l3 + 6 : Int32) fun v210 =>
          law_L SL xs fu v210 t208.2
        else
          none
      else
      if v3 = 21 then
        (xg SL xs (l3 + (1 : Int32))).bind fun v212 =>
        (f_X11_safe v212 M).bind fun t214 =>
        (xg SL xs (l3 + (1 : Int32))).bind fun v215 =>
        (f_X12_safe v215 t214.2).bind fun t217 =>
        if t214.1 = t217.1 then
          lt (l3 + 6 : Int32) fun v219 =>
          law_L SL xs fu v219 t217.2
        else
          none
      else
      if v3 = 22 then
        (xg SL xs (l3 + (1 : Int32))).bind fun v221 =>
        (xg SL xs (l3 + (2 : Int32))).bind fun v222 =>
        (f_X11_dark v221 v222 M).bind fun t224 =>
        (xg SL xs (l3 + (1 : Int32))).bind fun v225 =>
        (xg SL xs (l3 + (2 : Int32))).bind fun v226 =>
        (f_X12_dark v225 v226 t224.2).bind fun t228 =>
        if t224.1 = t228.1 then
          lt (l3 + 6 : Int32) fun v230 =>
          law_L SL xs fu v230 t228.2
        else
          none
      else
      if v3 = 23 then
        (f_X11_bridges M).bind fun t233 =>
        (f_X12_bridges t233.2).bind fun t235 =>
        if t233.1 = t235.1 then
          lt (l3 + 6 : Int32) fun v237 =>
          law_L SL xs fu v237 t235.2
        else
          none
      else
      if v3 = 24 then
        (xg SL xs (l3 + (1 : Int32))).bind fun v239 =>
        (f_X11_gather v239 M).bind fun t241 =>
        (xg SL xs (l3 + (1 : Int32))).bind fun v242 =>
        (f_X12_gather v242 t241.2).bind fun t244 =>
        if t241.1 = t244.1 then
          lt (l3 + 6 : Int32) fun v246 =>
          law_L SL xs fu v246 t244.2
        else
          none
      else
      if v3 = 25 then
        (xg SL xs (l3 + (1 : Int32))).bind fun v248 =>
        (xg SL xs (l3 + (2 : Int32))).bind fun v249 =>
        (f_X11_moves v248 v249 M).bind fun v251 =>
        (xg SL xs (l3 + (1 : Int32))).bind fun v252 =>
        (xg SL xs (l3 + (2 : Int32))).bind fun v253 =>
        (f_X12_moves v252 v253 M).bind fun t255 =>
        if v251 = t255.1 then
          lt (l3 + 6 : Int32) fun v257 =>
          law_L SL xs fu v257 t255.2
        else
          none
      else
      if v3 = 26 then
        (xg SL xs (l3 + (1 : Int32))).bind fun v259 =>
        (xg SL xs (l3 + (2 : Int32))).bind fun v260 =>
        (f_X11_cut v259 v260 M).bind fun v262 =>
        (xg SL xs (l3 + (1 : Int32))).bind fun v263 =>
        (xg SL xs (l3 + (2 : Int32))).bind fun v264 =>
        (f_X12_cut v263 v264 M).bind fun t266 =>
        if v262 = t266.1 then
          lt (l3 + 6 : Int32) fun v268 =>
          law_L SL xs fu v268 t266.2
        else
          none
      else
      if v3 = 27 then
        (f_X11_tree M).bind fun v271 =>
        (f_X12_tree M).bind fun v273 =>
        if v271 = v273 then
          lt (l3 + 6 : Int32) fun v275 =>
          law_L SL xs fu v275 M
        else
          none
      else
      if v3 = 28 then
        (xg SL xs (l3 + (1 : Int32))).bind fun v277 =>
        (f_X11_twins v277 M).bind fun t279 =>
        (xg SL xs (l3 + (1 : Int32))).bind fun v280 =>
        (f_X12_twins v280 t279.2).bind fun t282 =>
        if t279.1 = t282.1 then
          lt (l3 + 6 : Int32) fun v284 =>
          law_L SL xs fu v284 t282.2
        else
          none
      else
      if v3 = 29 then
        (xg SL xs (l3 + (1 : Int32))).bind fun v286 =>
        (f_X11_brightest v286 M).bind fun v288 =>
        (xg SL xs (l3 + (1 : Int32))).bind fun v289 =>
        (f_X12_brightest v289 M).bind fun t291 =>
        if v288 = t291.1 then
          lt (l3 + 6 : Int32) fun v293 =>
          law_L SL xs fu v293 t291.2
        else
          none
      else
      if v3 = 30 then
        (xg SL xs (l3 + (1 : Int32))).bind fun v295 =>
        (xg SL xs (l3 + (2 : Int32))).bind fun v296 =>
        (f_X11_glowIn v295 v296 M).bind fun t298 =>
        (xg SL xs (l3 + (1 : Int32))).bind fun v299 =>
        (xg SL xs (l3 + (2 : Int32))).bind fun v300 =>
        (f_X12_glowIn v299 v300 t298.2).bind fun t302 =>
        if t298.1 = t302.1 then
          lt (l3 + 6 : Int32) fun v304 =>
          law_L SL xs fu v304 t302.2
        else
          none
      else
      if v3 = 31 then
        (xg SL xs (l3 + (1 : Int32))).bind fun v306 =>
        (xg SL xs (l3 + (2 : Int32))).bind fun v307 =>
        (f_X11_then v306 v307 M).bind fun t309 =>
        (xg SL xs (l3 + (1 : Int32))).bind fun v310 =>
        (xg SL xs (l3 + (2 : Int32))).bind fun v311 =>
        (f_X12_then v310 v311 t309.2).bind fun t313 =>
        if t309.1 = t313.1 then
          lt (l3 + 6 : Int32) fun v315 =>
          law_L SL xs fu v315 t313.2
        else
          none
      else
      if v3 = 32 then
        (xg SL xs (l3 + (1 : Int32))).bind fun v317 =>
        (xg SL xs (l3 + (2 : Int32))).bind fun v318 =>
        (xg SL xs (l3 + (3 : Int32))).bind fun v319 =>
        (f_X11_year v317 v318 v319 M).bind fun t321 =>
        (xg SL xs (l3 + (1 : Int32))).bind fun v322 =>
        (xg SL xs (l3 + (2 : Int32))).bind fun v323 =>
        (xg SL xs (l3 + (3 : Int32))).bind fun v324 =>
        (f_X12_year v322 v323 v324 t321.2).bind fun t326 =>
        if t321.1 = t326.1 then
          lt (l3 + 6 : Int32) fun v328 =>
          law_L SL xs fu v328 t326.2
        else
          none
      else
      if v3 = 33 then
        (xg SL xs (l3 + (1 : Int32))).bind fun v330 =>
        (xg SL xs (l3 + (2 : Int32))).bind fun v331 =>
        (xg SL xs (l3 + (3 : Int32))).bind fun v332 =>
        lt (
          if v332 = 0 then
            (0 : Int32)
          else
            (1 : Int32)
         : Int32) fun t333 =>
        (f_X11_tell v330 v331 t333 M).bind fun t336 =>
        (xg SL xs (l3 + (1 : Int32))).bind fun v337 =>
        (xg SL xs (l3 + (2 : Int32))).bind fun v338 =>
        (xg SL xs (l3 + (3 : Int32))).bind fun v339 =>
        lt (
          if v339 = 0 then
            (0 : Int32)
          else
            (1 : Int32)
         : Int32) fun t340 =>
        (f_X12_tell v337 v338 t340 t336.2).bind fun t343 =>
        if t336.1 = t343.1 then
          lt (l3 + 6 : Int32) fun v345 =>
          law_L SL xs fu v345 t343.2
        else
          none
      else
      if v3 = 34 then
        (f_X11_forget M).bind fun t348 =>
        (f_X12_forget t348.2).bind fun t350 =>
        if t348.1 = t350.1 then
          lt (l3 + 6 : Int32) fun v352 =>
          law_L SL xs fu v352 t350.2
        else
          none
      else
      if v3 = 35 then
        (xg SL xs (l3 + (1 : Int32))).bind fun v354 =>
        (xg SL xs (l3 + (2 : Int32))).bind fun v355 =>
        (f_X11_words v354 v355 M).bind fun t357 =>
        (xg SL xs (l3 + (1 : Int32))).bind fun v358 =>
        (xg SL xs (l3 + (2 : Int32))).bind fun v359 =>
        (f_X12_words v358 v359 t357.2).bind fun t361 =>
        if t357.1 = t361.1 then
          lt (l3 + 6 : Int32) fun v363 =>
          law_L SL xs fu v363 t361.2
        else
          none
      else
      if v3 = 36 then
        (xg SL xs (l3 + (1 : Int32))).bind fun v365 =>
        (xg SL xs (l3 + (2 : Int32))).bind fun v366 =>
        (f_X11_look v365 v366 M).bind fun t368 =>
        (xg SL xs (l3 + (1 : Int32))).bind fun v369 =>
        (xg SL xs (l3 + (2 : Int32))).bind fun v370 =>
        (f_X12_look v369 v370 t368.2).bind fun t372 =>
        if t368.1 = t372.1 then
          lt (l3 + 6 : Int32) fun v374 =>
          law_L SL xs fu v374 t372.2
        else
          none
      else
      if v3 = 37 then
        (xg SL xs (l3 + (1 : Int32))).bind fun v376 =>
        (f_X11_hold v376 M).bind fun t378 =>
        (xg SL xs (l3 + (1 : Int32))).bind fun v379 =>
        (f_X12_hold v379 t378.2).bind fun t381 =>
        if t378.1 = t381.1 then
          lt (l3 + 6 : Int32) fun v383 =>
          law_L SL xs fu v383 t381.2
        else
          none
      else
      if v3 = 38 then
        (xg SL xs (l3 + (1 : Int32))).bind fun v385 =>
        (f_X11_restore v385 M).bind fun t387 =>
        (xg SL xs (l3 + (1 : Int32))).bind fun v388 =>
        (f_X12_restore v388 t387.2).bind fun t390 =>
        if t387.1 = t390.1 then
          lt (l3 + 6 : Int32) fun v392 =>
          law_L SL xs fu v392 t390.2
        else
          none
      else
      if v3 = 39 then
        (xg SL xs (l3 + (1 : Int32))).bind fun v394 =>
        (f_X11_count v394 M).bind fun v396 =>
        (xg SL xs (l3 + (1 : Int32))).bind fun v397 =>
        (f_X12_count v397 M).bind fun t399 =>
        if v396 = t399.1 then
          lt (l3 + 6 : Int32) fun v401 =>
          law_L SL xs fu v401 t399.2
        else
          none
      else
      lt (l3 + 6 : Int32) fun v402 =>
      law_L SL xs fu v402 M
set_option maxHeartbeats 8000000 in
set_option maxRecDepth 20000 in
theorem t_law_L {g : GG} {d : Nat} {P : PT} {SL : Nat} {xs : Nat → Int32} (hS : g.2.2.2.2 = (SL, xs)) (hd : 60 ≤ d) (hP : IsM g iL_law d none P) (hret : ∀ (pc : Nat) (ls : List (Option Value)) (M : Mem), decode code pc = .ok (.ireturn, 1) → P pc ls [.int 1] LAY M) : ∀ (fu : Nat) (l3 : Int32) (M : Mem), law_L SL xs fu l3 M = some () → P 18 [some (.retAddr 9), some (.ref 0), some (.ref 67), some (.int l3)] [] LAY M := by
  have hd1 : 1 ≤ d := by omega
  intro fu
  induction fu with
  | zero => intro l3 M hf; simp [law_L] at hf
  | succ fu ih =>
    intro l3 M hf
    rw [law_L] at hf
    refine x_iload_n hP dL_law_18 rfl ?_
    refine x_aloadX hP dL_law_19 rfl ?_
    refine x_xlen hS hP dL_law_20 ?_
    refine x_bipush hP dL_law_21 (v := 6) rfl ?_
    refine x_isub hP dL_law_23 ?_
    refine x_icmp_gt hP dL_law_24 (tgt := 1320) (by decide) (fun c1 => ?_) (fun c1 => ?_)
    · replace hf := p_t c1 hf
      refine x_iconst hP dL_law_1320 (v := 1) rfl ?_
      exact hret _ _ _ dL_law_1321
    · replace hf := p_f c1 hf
      refine x_aloadX hP dL_law_27 rfl ?_
      refine x_iload_n hP dL_law_28 rfl ?_
      obtain ⟨v2, hiv2, hv2, hf⟩ := b_xg hf
      refine x_xld hS hP hiv2 hv2 dL_law_29 ?_
      refine x_bipush hP dL_law_30 (v := 63) rfl ?_
      refine x_iand hP dL_law_32 ?_
      obtain ⟨v3, hv3, hf⟩ := b_lt hf
      refine y_nmI hv3 ?_
      by_cases c4 : v3 = 0
      · refine x_tswE hP dL_law_33 c4 (by decide) (by decide) (off := 175) rfl (tgt := 208) (by decide) ?_
        replace hf := p_t c4 hf
        refine x_aload_n hP dL_law_208 rfl ?_
        refine x_aloadX hP dL_law_209 rfl ?_
        refine x_iload_n hP dL_law_210 rfl ?_
        refine x_iconst hP dL_law_211 (v := 1) rfl ?_
        refine x_iadd hP dL_law_212 ?_
        obtain ⟨v5, hiv5, hv5, hf⟩ := b_xg hf
        refine x_xld hS hP hiv5 hv5 dL_law_213 ?_
        refine x_aloadX hP dL_law_214 rfl ?_
        refine x_iload_n hP dL_law_215 rfl ?_
        refine x_iconst hP dL_law_216 (v := 2) rfl ?_
        refine x_iadd hP dL_law_217 ?_
        obtain ⟨v6, hiv6, hv6, hf⟩ := b_xg hf
        refine x_xld hS hP hiv6 hv6 dL_law_218 ?_
        refine x_aloadX hP dL_law_219 rfl ?_
        refine x_iload_n hP dL_law_220 rfl ?_
        refine x_iconst hP dL_law_221 (v := 3) rfl ?_
        refine x_iadd hP dL_law_222 ?_
        obtain ⟨v7, hiv7, hv7, hf⟩ := b_xg hf
        refine x_xld hS hP hiv7 hv7 dL_law_223 ?_
        refine x_aloadX hP dL_law_224 rfl ?_
        refine x_iload_n hP dL_law_225 rfl ?_
        refine x_iconst hP dL_law_226 (v := 4) rfl ?_
        refine x_iadd hP dL_law_227 ?_
        obtain ⟨v8, hiv8, hv8, hf⟩ := b_xg hf
        refine x_xld hS hP hiv8 hv8 dL_law_228 ?_
        refine x_aloadX hP dL_law_229 rfl ?_
        refine x_iload_n hP dL_law_230 rfl ?_
        refine x_iconst hP dL_law_231 (v := 5) rfl ?_
        refine x_iadd hP dL_law_232 ?_
        obtain ⟨v9, hiv9, hv9, hf⟩ := b_xg hf
        refine x_xld hS hP hiv9 hv9 dL_law_233 ?_
        obtain ⟨t11, hc10, hf⟩ := b_bd hf
        refine y_cvi hP oX11_feed lL_13 [.int v5, .int v6, .int v7, .int v8, .int v9] [] rfl rfl rfl lay0 dL_law_234 (t_X11_feed (d := d - 1) (by omega) hc10) (by omega) ?_
        refine x_aload_n hP dL_law_237 rfl ?_
        refine x_aloadX hP dL_law_238 rfl ?_
        refine x_iload_n hP dL_law_239 rfl ?_
        refine x_iconst hP dL_law_240 (v := 1) rfl ?_
        refine x_iadd hP dL_law_241 ?_
        obtain ⟨v12, hiv12, hv12, hf⟩ := b_xg hf
        refine x_xld hS hP hiv12 hv12 dL_law_242 ?_
        refine x_aloadX hP dL_law_243 rfl ?_
        refine x_iload_n hP dL_law_244 rfl ?_
        refine x_iconst hP dL_law_245 (v := 2) rfl ?_
        refine x_iadd hP dL_law_246 ?_
        obtain ⟨v13, hiv13, hv13, hf⟩ := b_xg hf
        refine x_xld hS hP hiv13 hv13 dL_law_247 ?_
        refine x_aloadX hP dL_law_248 rfl ?_
        refine x_iload_n hP dL_law_249 rfl ?_
        refine x_iconst hP dL_law_250 (v := 3) rfl ?_
        refine x_iadd hP dL_law_251 ?_
        obtain ⟨v14, hiv14, hv14, hf⟩ := b_xg hf
        refine x_xld hS hP hiv14 hv14 dL_law_252 ?_
        refine x_aloadX hP dL_law_253 rfl ?_
        refine x_iload_n hP dL_law_254 rfl ?_
        refine x_iconst hP dL_law_255 (v := 4) rfl ?_
        refine x_iadd hP dL_law_256 ?_
        obtain ⟨v15, hiv15, hv15, hf⟩ := b_xg hf
        refine x_xld hS hP hiv15 hv15 dL_law_257 ?_
        refine x_aloadX hP dL_law_258 rfl ?_
        refine x_iload_n hP dL_law_259 rfl ?_
        refine x_iconst hP dL_law_260 (v := 5) rfl ?_
        refine x_iadd hP dL_law_261 ?_
        obtain ⟨v16, hiv16, hv16, hf⟩ := b_xg hf
        refine x_xld hS hP hiv16 hv16 dL_law_262 ?_
        obtain ⟨t18, hc17, hf⟩ := b_bd hf
        refine y_cvi hP oX12_feed lL_17 [.int v12, .int v13, .int v14, .int v15, .int v16] [.int t11.1] rfl rfl rfl lay67 dL_law_263 (t_X12_feed (d := d - 1) (by omega) hc17) (by omega) ?_
        refine x_icmp_eq hP dL_law_266 (tgt := 1314) (by decide) (fun c19 => ?_) (fun c19 => ?_)
        · replace hf := p_t c19 hf
          obtain ⟨v20, hv20, hf⟩ := b_lt hf
          refine x_iinc hP (v := v20) (ls2 := [some (.retAddr 9), some (.ref 0), some (.ref 67), some (.int v20)]) dL_law_1314 rfl (by rw [hv20]; rfl) rfl rfl ?_
          refine x_goto hP dL_law_1317 (tgt := 18) (by decide) ?_
          exact ih _ _ hf
        · replace hf := p_f c19 hf
          refine x_iconst hP dL_law_269 (v := 0) rfl ?_
          cases hf
      replace hf := p_f c4 hf
      by_cases c21 : v3 = 1
      · refine x_tswE hP dL_law_33 c21 (by decide) (by decide) (off := 238) rfl (tgt := 271) (by decide) ?_
        replace hf := p_t c21 hf
        refine x_aload_n hP dL_law_271 rfl ?_
        refine x_aloadX hP dL_law_272 rfl ?_
        refine x_iload_n hP dL_law_273 rfl ?_
        refine x_iconst hP dL_law_274 (v := 1) rfl ?_
        refine x_iadd hP dL_law_275 ?_
        obtain ⟨v22, hiv22, hv22, hf⟩ := b_xg hf
        refine x_xld hS hP hiv22 hv22 dL_law_276 ?_
        obtain ⟨t24, hc23, hf⟩ := b_bd hf
        refine y_cvi hP oX11_back lL_18 [.int v22] [] rfl rfl rfl lay0 dL_law_277 (t_X11_back (d := d - 1) (by omega) hc23) (by omega) ?_
        refine x_aload_n hP dL_law_280 rfl ?_
        refine x_aloadX hP dL_law_281 rfl ?_
        refine x_iload_n hP dL_law_282 rfl ?_
        refine x_iconst hP dL_law_283 (v := 1) rfl ?_
        refine x_iadd hP dL_law_284 ?_
        obtain ⟨v25, hiv25, hv25, hf⟩ := b_xg hf
        refine x_xld hS hP hiv25 hv25 dL_law_285 ?_
        obtain ⟨t27, hc26, hf⟩ := b_bd hf
        refine y_cvi hP oX12_back lL_22 [.int v25] [.int t24.1] rfl rfl rfl lay67 dL_law_286 (t_X12_back (d := d - 1) (by omega) hc26) (by omega) ?_
        refine x_icmp_eq hP dL_law_289 (tgt := 1314) (by decide) (fun c28 => ?_) (fun c28 => ?_)
        · replace hf := p_t c28 hf
          obtain ⟨v29, hv29, hf⟩ := b_lt hf
          refine x_iinc hP (v := v29) (ls2 := [some (.retAddr 9), some (.ref 0), some (.ref 67), some (.int v29)]) dL_law_1314 rfl (by rw [hv29]; rfl) rfl rfl ?_
          refine x_goto hP dL_law_1317 (tgt := 18) (by decide) ?_
          exact ih _ _ hf
        · replace hf := p_f c28 hf
          refine x_iconst hP dL_law_292 (v := 0) rfl ?_
          cases hf
      replace hf := p_f c21 hf
      by_cases c30 : v3 = 2
      · refine x_tswE hP dL_law_33 c30 (by decide) (by decide) (off := 261) rfl (tgt := 294) (by decide) ?_
        replace hf := p_t c30 hf
        refine x_aload_n hP dL_law_294 rfl ?_
        obtain ⟨t32, hc31, hf⟩ := b_bd hf
        refine y_cvi hP oX11_read lL_23 [] [] rfl rfl rfl lay0 dL_law_295 (t_X11_read (d := d - 1) (by omega) hc31) (by omega) ?_
        refine x_aload_n hP dL_law_298 rfl ?_
        obtain ⟨t34, hc33, hf⟩ := b_bd hf
        refine y_cvi hP oX12_read lL_27 [] [.int t32.1] rfl rfl rfl lay67 dL_law_299 (t_X12_read (d := d - 1) (by omega) hc33) (by omega) ?_
        refine x_icmp_eq hP dL_law_302 (tgt := 1314) (by decide) (fun c35 => ?_) (fun c35 => ?_)
        · replace hf := p_t c35 hf
          obtain ⟨v36, hv36, hf⟩ := b_lt hf
          refine x_iinc hP (v := v36) (ls2 := [some (.retAddr 9), some (.ref 0), some (.ref 67), some (.int v36)]) dL_law_1314 rfl (by rw [hv36]; rfl) rfl rfl ?_
          refine x_goto hP dL_law_1317 (tgt := 18) (by decide) ?_
          exact ih _ _ hf
        · replace hf := p_f c35 hf
          refine x_iconst hP dL_law_305 (v := 0) rfl ?_
          cases hf
      replace hf := p_f c30 hf
      by_cases c37 : v3 = 3
      · refine x_tswE hP dL_law_33 c37 (by decide) (by decide) (off := 274) rfl (tgt := 307) (by decide) ?_
        replace hf := p_t c37 hf
        refine x_aload_n hP dL_law_307 rfl ?_
        obtain ⟨v39, hc38, hf⟩ := b_bd hf
        refine y_cvi hP oX11_place lL_28 [] [] rfl rfl rfl lay0 dL_law_308 (t_X11_place (d := d - 1) (by omega) hc38) (by omega) ?_
        refine x_aload_n hP dL_law_311 rfl ?_
        obtain ⟨v41, hc40, hf⟩ := b_bd hf
        refine y_cvi hP oX12_place lL_31 [] [.int v39] rfl rfl rfl lay67 dL_law_312 (t_X12_place (d := d - 1) (by omega) hc40) (by omega) ?_
        refine x_icmp_eq hP dL_law_315 (tgt := 1314) (by decide) (fun c42 => ?_) (fun c42 => ?_)
        · replace hf := p_t c42 hf
          obtain ⟨v43, hv43, hf⟩ := b_lt hf
          refine x_iinc hP (v := v43) (ls2 := [some (.retAddr 9), some (.ref 0), some (.ref 67), some (.int v43)]) dL_law_1314 rfl (by rw [hv43]; rfl) rfl rfl ?_
          refine x_goto hP dL_law_1317 (tgt := 18) (by decide) ?_
          exact ih _ _ hf
        · replace hf := p_f c42 hf
          refine x_iconst hP dL_law_318 (v := 0) rfl ?_
          cases hf
      replace hf := p_f c37 hf
      by_cases c44 : v3 = 4
      · refine x_tswE hP dL_law_33 c44 (by decide) (by decide) (off := 287) rfl (tgt := 320) (by decide) ?_
        replace hf := p_t c44 hf
        refine x_aload_n hP dL_law_320 rfl ?_
        refine x_aloadX hP dL_law_321 rfl ?_
        refine x_iload_n hP dL_law_322 rfl ?_
        refine x_iconst hP dL_law_323 (v := 1) rfl ?_
        refine x_iadd hP dL_law_324 ?_
        obtain ⟨v45, hiv45, hv45, hf⟩ := b_xg hf
        refine x_xld hS hP hiv45 hv45 dL_law_325 ?_
        refine x_aloadX hP dL_law_326 rfl ?_
        refine x_iload_n hP dL_law_327 rfl ?_
        refine x_iconst hP dL_law_328 (v := 2) rfl ?_
        refine x_iadd hP dL_law_329 ?_
        obtain ⟨v46, hiv46, hv46, hf⟩ := b_xg hf
        refine x_xld hS hP hiv46 hv46 dL_law_330 ?_
        obtain ⟨v48, hc47, hf⟩ := b_bd hf
        refine y_cvi hP oX11_corner lL_32 [.int v45, .int v46] [] rfl rfl rfl lay0 dL_law_331 (t_X11_corner (d := d - 1) (by omega) hc47) (by omega) ?_
        refine x_aload_n hP dL_law_334 rfl ?_
        refine x_aloadX hP dL_law_335 rfl ?_
        refine x_iload_n hP dL_law_336 rfl ?_
        refine x_iconst hP dL_law_337 (v := 1) rfl ?_
        refine x_iadd hP dL_law_338 ?_
        obtain ⟨v49, hiv49, hv49, hf⟩ := b_xg hf
        refine x_xld hS hP hiv49 hv49 dL_law_339 ?_
        refine x_aloadX hP dL_law_340 rfl ?_
        refine x_iload_n hP dL_law_341 rfl ?_
        refine x_iconst hP dL_law_342 (v := 2) rfl ?_
        refine x_iadd hP dL_law_343 ?_
        obtain ⟨v50, hiv50, hv50, hf⟩ := b_xg hf
        refine x_xld hS hP hiv50 hv50 dL_law_344 ?_
        obtain ⟨t52, hc51, hf⟩ := b_bd hf
        refine y_cvi hP oX12_corner lL_36 [.int v49, .int v50] [.int v48] rfl rfl rfl lay67 dL_law_345 (t_X12_corner (d := d - 1) (by omega) hc51) (by omega) ?_
        refine x_icmp_eq hP dL_law_348 (tgt := 1314) (by decide) (fun c53 => ?_) (fun c53 => ?_)
        · replace hf := p_t c53 hf
          obtain ⟨v54, hv54, hf⟩ := b_lt hf
          refine x_iinc hP (v := v54) (ls2 := [some (.retAddr 9), some (.ref 0), some (.ref 67), some (.int v54)]) dL_law_1314 rfl (by rw [hv54]; rfl) rfl rfl ?_
          refine x_goto hP dL_law_1317 (tgt := 18) (by decide) ?_
          exact ih _ _ hf
        · replace hf := p_f c53 hf
          refine x_iconst hP dL_law_351 (v := 0) rfl ?_
          cases hf
      replace hf := p_f c44 hf
      by_cases c55 : v3 = 5
      · refine x_tswE hP dL_law_33 c55 (by decide) (by decide) (off := 320) rfl (tgt := 353) (by decide) ?_
        replace hf := p_t c55 hf
        refine x_aload_n hP dL_law_353 rfl ?_
        refine x_aloadX hP dL_law_354 rfl ?_
        refine x_iload_n hP dL_law_355 rfl ?_
        refine x_iconst hP dL_law_356 (v := 1) rfl ?_
        refine x_iadd hP dL_law_357 ?_
        obtain ⟨v56, hiv56, hv56, hf⟩ := b_xg hf
        refine x_xld hS hP hiv56 hv56 dL_law_358 ?_
        refine x_aloadX hP dL_law_359 rfl ?_
        refine x_iload_n hP dL_law_360 rfl ?_
        refine x_iconst hP dL_law_361 (v := 2) rfl ?_
        refine x_iadd hP dL_law_362 ?_
        obtain ⟨v57, hiv57, hv57, hf⟩ := b_xg hf
        refine x_xld hS hP hiv57 hv57 dL_law_363 ?_
        obtain ⟨v59, hc58, hf⟩ := b_bd hf
        refine y_cvi hP oX11_street lL_37 [.int v56, .int v57] [] rfl rfl rfl lay0 dL_law_364 (t_X11_street (d := d - 1) (by omega) hc58) (by omega) ?_
        refine x_aload_n hP dL_law_367 rfl ?_
        refine x_aloadX hP dL_law_368 rfl ?_
        refine x_iload_n hP dL_law_369 rfl ?_
        refine x_iconst hP dL_law_370 (v := 1) rfl ?_
        refine x_iadd hP dL_law_371 ?_
        obtain ⟨v60, hiv60, hv60, hf⟩ := b_xg hf
        refine x_xld hS hP hiv60 hv60 dL_law_372 ?_
        refine x_aloadX hP dL_law_373 rfl ?_
        refine x_iload_n hP dL_law_374 rfl ?_
        refine x_iconst hP dL_law_375 (v := 2) rfl ?_
        refine x_iadd hP dL_law_376 ?_
        obtain ⟨v61, hiv61, hv61, hf⟩ := b_xg hf
        refine x_xld hS hP hiv61 hv61 dL_law_377 ?_
        obtain ⟨t63, hc62, hf⟩ := b_bd hf
        refine y_cvi hP oX12_street lL_40 [.int v60, .int v61] [.int v59] rfl rfl rfl lay67 dL_law_378 (t_X12_street (d := d - 1) (by omega) hc62) (by omega) ?_
        refine x_icmp_eq hP dL_law_381 (tgt := 1314) (by decide) (fun c64 => ?_) (fun c64 => ?_)
        · replace hf := p_t c64 hf
          obtain ⟨v65, hv65, hf⟩ := b_lt hf
          refine x_iinc hP (v := v65) (ls2 := [some (.retAddr 9), some (.ref 0), some (.ref 67), some (.int v65)]) dL_law_1314 rfl (by rw [hv65]; rfl) rfl rfl ?_
          refine x_goto hP dL_law_1317 (tgt := 18) (by decide) ?_
          exact ih _ _ hf
        · replace hf := p_f c64 hf
          refine x_iconst hP dL_law_384 (v := 0) rfl ?_
          cases hf
      replace hf := p_f c55 hf
      by_cases c66 : v3 = 6
      · refine x_tswE hP dL_law_33 c66 (by decide) (by decide) (off := 353) rfl (tgt := 386) (by decide) ?_
        replace hf := p_t c66 hf
        refine x_aload_n hP dL_law_386 rfl ?_
        refine x_aloadX hP dL_law_387 rfl ?_
        refine x_iload_n hP dL_law_388 rfl ?_
        refine x_iconst hP dL_law_389 (v := 1) rfl ?_
        refine x_iadd hP dL_law_390 ?_
        obtain ⟨v67, hiv67, hv67, hf⟩ := b_xg hf
        refine x_xld hS hP hiv67 hv67 dL_law_391 ?_
        refine x_aloadX hP dL_law_392 rfl ?_
        refine x_iload_n hP dL_law_393 rfl ?_
        refine x_iconst hP dL_law_394 (v := 2) rfl ?_
        refine x_iadd hP dL_law_395 ?_
        obtain ⟨v68, hiv68, hv68, hf⟩ := b_xg hf
        refine x_xld hS hP hiv68 hv68 dL_law_396 ?_
        obtain ⟨t70, hc69, hf⟩ := b_bd hf
        refine y_cvi hP oX11_young lL_41 [.int v67, .int v68] [] rfl rfl rfl lay0 dL_law_397 (t_X11_young (d := d - 1) (by omega) hc69) (by omega) ?_
        refine x_aload_n hP dL_law_400 rfl ?_
        refine x_aloadX hP dL_law_401 rfl ?_
        refine x_iload_n hP dL_law_402 rfl ?_
        refine x_iconst hP dL_law_403 (v := 1) rfl ?_
        refine x_iadd hP dL_law_404 ?_
        obtain ⟨v71, hiv71, hv71, hf⟩ := b_xg hf
        refine x_xld hS hP hiv71 hv71 dL_law_405 ?_
        refine x_aloadX hP dL_law_406 rfl ?_
        refine x_iload_n hP dL_law_407 rfl ?_
        refine x_iconst hP dL_law_408 (v := 2) rfl ?_
        refine x_iadd hP dL_law_409 ?_
        obtain ⟨v72, hiv72, hv72, hf⟩ := b_xg hf
        refine x_xld hS hP hiv72 hv72 dL_law_410 ?_
        obtain ⟨t74, hc73, hf⟩ := b_bd hf
        refine y_cvi hP oX12_young lL_44 [.int v71, .int v72] [.int t70.1] rfl rfl rfl lay67 dL_law_411 (t_X12_young (d := d - 1) (by omega) hc73) (by omega) ?_
        refine x_icmp_eq hP dL_law_414 (tgt := 1314) (by decide) (fun c75 => ?_) (fun c75 => ?_)
        · replace hf := p_t c75 hf
          obtain ⟨v76, hv76, hf⟩ := b_lt hf
          refine x_iinc hP (v := v76) (ls2 := [some (.retAddr 9), some (.ref 0), some (.ref 67), some (.int v76)]) dL_law_1314 rfl (by rw [hv76]; rfl) rfl rfl ?_
          refine x_goto hP dL_law_1317 (tgt := 18) (by decide) ?_
          exact ih _ _ hf
        · replace hf := p_f c75 hf
          refine x_iconst hP dL_law_417 (v := 0) rfl ?_
          cases hf
      replace hf := p_f c66 hf
      by_cases c77 : v3 = 7
      · refine x_tswE hP dL_law_33 c77 (by decide) (by decide) (off := 386) rfl (tgt := 419) (by decide) ?_
        replace hf := p_t c77 hf
        refine x_aload_n hP dL_law_419 rfl ?_
        refine x_aloadX hP dL_law_420 rfl ?_
        refine x_iload_n hP dL_law_421 rfl ?_
        refine x_iconst hP dL_law_422 (v := 1) rfl ?_
        refine x_iadd hP dL_law_423 ?_
        obtain ⟨v78, hiv78, hv78, hf⟩ := b_xg hf
        refine x_xld hS hP hiv78 hv78 dL_law_424 ?_
        refine x_aloadX hP dL_law_425 rfl ?_
        refine x_iload_n hP dL_law_426 rfl ?_
        refine x_iconst hP dL_law_427 (v := 2) rfl ?_
        refine x_iadd hP dL_law_428 ?_
        obtain ⟨v79, hiv79, hv79, hf⟩ := b_xg hf
        refine x_xld hS hP hiv79 hv79 dL_law_429 ?_
        obtain ⟨v81, hc80, hf⟩ := b_bd hf
        refine y_cvi hP oX11_word lL_45 [.int v78, .int v79] [] rfl rfl rfl lay0 dL_law_430 (t_X11_word (d := d - 1) (by omega) hc80) (by omega) ?_
        refine x_aload_n hP dL_law_433 rfl ?_
        refine x_aloadX hP dL_law_434 rfl ?_
        refine x_iload_n hP dL_law_435 rfl ?_
        refine x_iconst hP dL_law_436 (v := 1) rfl ?_
        refine x_iadd hP dL_law_437 ?_
        obtain ⟨v82, hiv82, hv82, hf⟩ := b_xg hf
        refine x_xld hS hP hiv82 hv82 dL_law_438 ?_
        refine x_aloadX hP dL_law_439 rfl ?_
        refine x_iload_n hP dL_law_440 rfl ?_
        refine x_iconst hP dL_law_441 (v := 2) rfl ?_
        refine x_iadd hP dL_law_442 ?_
        obtain ⟨v83, hiv83, hv83, hf⟩ := b_xg hf
        refine x_xld hS hP hiv83 hv83 dL_law_443 ?_
        obtain ⟨v85, hc84, hf⟩ := b_bd hf
        refine y_cvi hP oX12_word_ lL_48 [.int v82, .int v83] [.int v81] rfl rfl rfl lay67 dL_law_444 (t_X12_word_ (d := d - 1) (by omega) hc84) (by omega) ?_
        refine x_icmp_eq hP dL_law_447 (tgt := 1314) (by decide) (fun c86 => ?_) (fun c86 => ?_)
        · replace hf := p_t c86 hf
          obtain ⟨v87, hv87, hf⟩ := b_lt hf
          refine x_iinc hP (v := v87) (ls2 := [some (.retAddr 9), some (.ref 0), some (.ref 67), some (.int v87)]) dL_law_1314 rfl (by rw [hv87]; rfl) rfl rfl ?_
          refine x_goto hP dL_law_1317 (tgt := 18) (by decide) ?_
          exact ih _ _ hf
        · replace hf := p_f c86 hf
          refine x_iconst hP dL_law_450 (v := 0) rfl ?_
          cases hf
      replace hf := p_f c77 hf
      by_cases c88 : v3 = 8
      · refine x_tswE hP dL_law_33 c88 (by decide) (by decide) (off := 419) rfl (tgt := 452) (by decide) ?_
        replace hf := p_t c88 hf
        refine x_aload_n hP dL_law_452 rfl ?_
        refine x_aloadX hP dL_law_453 rfl ?_
        refine x_iload_n hP dL_law_454 rfl ?_
        refine x_iconst hP dL_law_455 (v := 1) rfl ?_
        refine x_iadd hP dL_law_456 ?_
        obtain ⟨v89, hiv89, hv89, hf⟩ := b_xg hf
        refine x_xld hS hP hiv89 hv89 dL_law_457 ?_
        refine x_aloadX hP dL_law_458 rfl ?_
        refine x_iload_n hP dL_law_459 rfl ?_
        refine x_iconst hP dL_law_460 (v := 2) rfl ?_
        refine x_iadd hP dL_law_461 ?_
        obtain ⟨v90, hiv90, hv90, hf⟩ := b_xg hf
        refine x_xld hS hP hiv90 hv90 dL_law_462 ?_
        refine x_aloadX hP dL_law_463 rfl ?_
        refine x_iload_n hP dL_law_464 rfl ?_
        refine x_iconst hP dL_law_465 (v := 3) rfl ?_
        refine x_iadd hP dL_law_466 ?_
        obtain ⟨v91, hiv91, hv91, hf⟩ := b_xg hf
        refine x_xld hS hP hiv91 hv91 dL_law_467 ?_
        obtain ⟨t93, hc92, hf⟩ := b_bd hf
        refine y_cvi hP oX11_tells lL_49 [.int v89, .int v90, .int v91] [] rfl rfl rfl lay0 dL_law_468 (t_X11_tells (d := d - 1) (by omega) hc92) (by omega) ?_
        refine x_aload_n hP dL_law_471 rfl ?_
        refine x_aloadX hP dL_law_472 rfl ?_
        refine x_iload_n hP dL_law_473 rfl ?_
        refine x_iconst hP dL_law_474 (v := 1) rfl ?_
        refine x_iadd hP dL_law_475 ?_
        obtain ⟨v94, hiv94, hv94, hf⟩ := b_xg hf
        refine x_xld hS hP hiv94 hv94 dL_law_476 ?_
        refine x_aloadX hP dL_law_477 rfl ?_
        refine x_iload_n hP dL_law_478 rfl ?_
        refine x_iconst hP dL_law_479 (v := 2) rfl ?_
        refine x_iadd hP dL_law_480 ?_
        obtain ⟨v95, hiv95, hv95, hf⟩ := b_xg hf
        refine x_xld hS hP hiv95 hv95 dL_law_481 ?_
        refine x_aloadX hP dL_law_482 rfl ?_
        refine x_iload_n hP dL_law_483 rfl ?_
        refine x_iconst hP dL_law_484 (v := 3) rfl ?_
        refine x_iadd hP dL_law_485 ?_
        obtain ⟨v96, hiv96, hv96, hf⟩ := b_xg hf
        refine x_xld hS hP hiv96 hv96 dL_law_486 ?_
        obtain ⟨t98, hc97, hf⟩ := b_bd hf
        refine y_cvi hP oX12_tells lL_53 [.int v94, .int v95, .int v96] [.int t93.1] rfl rfl rfl lay67 dL_law_487 (t_X12_tells (d := d - 1) (by omega) hc97) (by omega) ?_
        refine x_icmp_eq hP dL_law_490 (tgt := 1314) (by decide) (fun c99 => ?_) (fun c99 => ?_)
        · replace hf := p_t c99 hf
          obtain ⟨v100, hv100, hf⟩ := b_lt hf
          refine x_iinc hP (v := v100) (ls2 := [some (.retAddr 9), some (.ref 0), some (.ref 67), some (.int v100)]) dL_law_1314 rfl (by rw [hv100]; rfl) rfl rfl ?_
          refine x_goto hP dL_law_1317 (tgt := 18) (by decide) ?_
          exact ih _ _ hf
        · replace hf := p_f c99 hf
          refine x_iconst hP dL_law_493 (v := 0) rfl ?_
          cases hf
      replace hf := p_f c88 hf
      by_cases c101 : v3 = 9
      · refine x_tswE hP dL_law_33 c101 (by decide) (by decide) (off := 462) rfl (tgt := 495) (by decide) ?_
        replace hf := p_t c101 hf
        refine x_aload_n hP dL_law_495 rfl ?_
        refine x_aloadX hP dL_law_496 rfl ?_
        refine x_iload_n hP dL_law_497 rfl ?_
        refine x_iconst hP dL_law_498 (v := 1) rfl ?_
        refine x_iadd hP dL_law_499 ?_
        obtain ⟨v102, hiv102, hv102, hf⟩ := b_xg hf
        refine x_xld hS hP hiv102 hv102 dL_law_500 ?_
        obtain ⟨t104, hc103, hf⟩ := b_bd hf
        refine y_cvi hP oX11_step lL_54 [.int v102] [] rfl rfl rfl lay0 dL_law_501 (t_X11_step (d := d - 1) (by omega) hc103) (by omega) ?_
        refine x_aload_n hP dL_law_504 rfl ?_
        refine x_aloadX hP dL_law_505 rfl ?_
        refine x_iload_n hP dL_law_506 rfl ?_
        refine x_iconst hP dL_law_507 (v := 1) rfl ?_
        refine x_iadd hP dL_law_508 ?_
        obtain ⟨v105, hiv105, hv105, hf⟩ := b_xg hf
        refine x_xld hS hP hiv105 hv105 dL_law_509 ?_
        obtain ⟨t107, hc106, hf⟩ := b_bd hf
        refine y_cvi hP oX12_step lL_57 [.int v105] [.int t104.1] rfl rfl rfl lay67 dL_law_510 (t_X12_step (d := d - 1) (by omega) hc106) (by omega) ?_
        refine x_icmp_eq hP dL_law_513 (tgt := 1314) (by decide) (fun c108 => ?_) (fun c108 => ?_)
        · replace hf := p_t c108 hf
          obtain ⟨v109, hv109, hf⟩ := b_lt hf
          refine x_iinc hP (v := v109) (ls2 := [some (.retAddr 9), some (.ref 0), some (.ref 67), some (.int v109)]) dL_law_1314 rfl (by rw [hv109]; rfl) rfl rfl ?_
          refine x_goto hP dL_law_1317 (tgt := 18) (by decide) ?_
          exact ih _ _ hf
        · replace hf := p_f c108 hf
          refine x_iconst hP dL_law_516 (v := 0) rfl ?_
          cases hf
      replace hf := p_f c101 hf
      by_cases c110 : v3 = 10
      · refine x_tswE hP dL_law_33 c110 (by decide) (by decide) (off := 485) rfl (tgt := 518) (by decide) ?_
        replace hf := p_t c110 hf
        refine x_aload_n hP dL_law_518 rfl ?_
        refine x_aloadX hP dL_law_519 rfl ?_
        refine x_iload_n hP dL_law_520 rfl ?_
        refine x_iconst hP dL_law_521 (v := 1) rfl ?_
        refine x_iadd hP dL_law_522 ?_
        obtain ⟨v111, hiv111, hv111, hf⟩ := b_xg hf
        refine x_xld hS hP hiv111 hv111 dL_law_523 ?_
        refine x_aloadX hP dL_law_524 rfl ?_
        refine x_iload_n hP dL_law_525 rfl ?_
        refine x_iconst hP dL_law_526 (v := 2) rfl ?_
        refine x_iadd hP dL_law_527 ?_
        obtain ⟨v112, hiv112, hv112, hf⟩ := b_xg hf
        refine x_xld hS hP hiv112 hv112 dL_law_528 ?_
        obtain ⟨t114, hc113, hf⟩ := b_bd hf
        refine y_cvi hP oX11_say lL_58 [.int v111, .int v112] [] rfl rfl rfl lay0 dL_law_529 (t_X11_say (d := d - 1) (by omega) hc113) (by omega) ?_
        refine x_aload_n hP dL_law_532 rfl ?_
        refine x_aloadX hP dL_law_533 rfl ?_
        refine x_iload_n hP dL_law_534 rfl ?_
        refine x_iconst hP dL_law_535 (v := 1) rfl ?_
        refine x_iadd hP dL_law_536 ?_
        obtain ⟨v115, hiv115, hv115, hf⟩ := b_xg hf
        refine x_xld hS hP hiv115 hv115 dL_law_537 ?_
        refine x_aloadX hP dL_law_538 rfl ?_
        refine x_iload_n hP dL_law_539 rfl ?_
        refine x_iconst hP dL_law_540 (v := 2) rfl ?_
        refine x_iadd hP dL_law_541 ?_
        obtain ⟨v116, hiv116, hv116, hf⟩ := b_xg hf
        refine x_xld hS hP hiv116 hv116 dL_law_542 ?_
        obtain ⟨t118, hc117, hf⟩ := b_bd hf
        refine y_cvi hP oX12_say lL_61 [.int v115, .int v116] [.int t114.1] rfl rfl rfl lay67 dL_law_543 (t_X12_say (d := d - 1) (by omega) hc117) (by omega) ?_
        refine x_icmp_eq hP dL_law_546 (tgt := 1314) (by decide) (fun c119 => ?_) (fun c119 => ?_)
        · replace hf := p_t c119 hf
          obtain ⟨v120, hv120, hf⟩ := b_lt hf
          refine x_iinc hP (v := v120) (ls2 := [some (.retAddr 9), some (.ref 0), some (.ref 67), some (.int v120)]) dL_law_1314 rfl (by rw [hv120]; rfl) rfl rfl ?_
          refine x_goto hP dL_law_1317 (tgt := 18) (by decide) ?_
          exact ih _ _ hf
        · replace hf := p_f c119 hf
          refine x_iconst hP dL_law_549 (v := 0) rfl ?_
          cases hf
      replace hf := p_f c110 hf
      by_cases c121 : v3 = 11
      · refine x_tswE hP dL_law_33 c121 (by decide) (by decide) (off := 518) rfl (tgt := 551) (by decide) ?_
        replace hf := p_t c121 hf
        refine x_aload_n hP dL_law_551 rfl ?_
        refine x_aloadX hP dL_law_552 rfl ?_
        refine x_iload_n hP dL_law_553 rfl ?_
        refine x_iconst hP dL_law_554 (v := 1) rfl ?_
        refine x_iadd hP dL_law_555 ?_
        obtain ⟨v122, hiv122, hv122, hf⟩ := b_xg hf
        refine x_xld hS hP hiv122 hv122 dL_law_556 ?_
        refine x_aloadX hP dL_law_557 rfl ?_
        refine x_iload_n hP dL_law_558 rfl ?_
        refine x_iconst hP dL_law_559 (v := 2) rfl ?_
        refine x_iadd hP dL_law_560 ?_
        obtain ⟨v123, hiv123, hv123, hf⟩ := b_xg hf
        refine x_xld hS hP hiv123 hv123 dL_law_561 ?_
        obtain ⟨t125, hc124, hf⟩ := b_bd hf
        refine y_cvi hP oX11_move lL_62 [.int v122, .int v123] [] rfl rfl rfl lay0 dL_law_562 (t_X11_move (d := d - 1) (by omega) hc124) (by omega) ?_
        refine x_aload_n hP dL_law_565 rfl ?_
        refine x_aloadX hP dL_law_566 rfl ?_
        refine x_iload_n hP dL_law_567 rfl ?_
        refine x_iconst hP dL_law_568 (v := 1) rfl ?_
        refine x_iadd hP dL_law_569 ?_
        obtain ⟨v126, hiv126, hv126, hf⟩ := b_xg hf
        refine x_xld hS hP hiv126 hv126 dL_law_570 ?_
        refine x_aloadX hP dL_law_571 rfl ?_
        refine x_iload_n hP dL_law_572 rfl ?_
        refine x_iconst hP dL_law_573 (v := 2) rfl ?_
        refine x_iadd hP dL_law_574 ?_
        obtain ⟨v127, hiv127, hv127, hf⟩ := b_xg hf
        refine x_xld hS hP hiv127 hv127 dL_law_575 ?_
        obtain ⟨t129, hc128, hf⟩ := b_bd hf
        refine y_cvi hP oX12_move lL_66 [.int v126, .int v127] [.int t125.1] rfl rfl rfl lay67 dL_law_576 (t_X12_move (d := d - 1) (by omega) hc128) (by omega) ?_
        refine x_icmp_eq hP dL_law_579 (tgt := 1314) (by decide) (fun c130 => ?_) (fun c130 => ?_)
        · replace hf := p_t c130 hf
          obtain ⟨v131, hv131, hf⟩ := b_lt hf
          refine x_iinc hP (v := v131) (ls2 := [some (.retAddr 9), some (.ref 0), some (.ref 67), some (.int v131)]) dL_law_1314 rfl (by rw [hv131]; rfl) rfl rfl ?_
          refine x_goto hP dL_law_1317 (tgt := 18) (by decide) ?_
          exact ih _ _ hf
        · replace hf := p_f c130 hf
          refine x_iconst hP dL_law_582 (v := 0) rfl ?_
          cases hf
      replace hf := p_f c121 hf
      by_cases c132 : v3 = 12
      · refine x_tswE hP dL_law_33 c132 (by decide) (by decide) (off := 551) rfl (tgt := 584) (by decide) ?_
        replace hf := p_t c132 hf
        refine x_aload_n hP dL_law_584 rfl ?_
        refine x_aloadX hP dL_law_585 rfl ?_
        refine x_iload_n hP dL_law_586 rfl ?_
        refine x_iconst hP dL_law_587 (v := 1) rfl ?_
        refine x_iadd hP dL_law_588 ?_
        obtain ⟨v133, hiv133, hv133, hf⟩ := b_xg hf
        refine x_xld hS hP hiv133 hv133 dL_law_589 ?_
        obtain ⟨t135, hc134, hf⟩ := b_bd hf
        refine y_cvi hP oX11_rouge lL_67 [.int v133] [] rfl rfl rfl lay0 dL_law_590 (t_X11_rouge (d := d - 1) (by omega) hc134) (by omega) ?_
        refine x_aload_n hP dL_law_593 rfl ?_
        refine x_aloadX hP dL_law_594 rfl ?_
        refine x_iload_n hP dL_law_595 rfl ?_
        refine x_iconst hP dL_law_596 (v := 1) rfl ?_
        refine x_iadd hP dL_law_597 ?_
        obtain ⟨v136, hiv136, hv136, hf⟩ := b_xg hf
        refine x_xld hS hP hiv136 hv136 dL_law_598 ?_
        obtain ⟨t138, hc137, hf⟩ := b_bd hf
        refine y_cvi hP oX12_rouge lL_71 [.int v136] [.int t135.1] rfl rfl rfl lay67 dL_law_599 (t_X12_rouge (d := d - 1) (by omega) hc137) (by omega) ?_
        refine x_icmp_eq hP dL_law_602 (tgt := 1314) (by decide) (fun c139 => ?_) (fun c139 => ?_)
        · replace hf := p_t c139 hf
          obtain ⟨v140, hv140, hf⟩ := b_lt hf
          refine x_iinc hP (v := v140) (ls2 := [some (.retAddr 9), some (.ref 0), some (.ref 67), some (.int v140)]) dL_law_1314 rfl (by rw [hv140]; rfl) rfl rfl ?_
          refine x_goto hP dL_law_1317 (tgt := 18) (by decide) ?_
          exact ih _ _ hf
        · replace hf := p_f c139 hf
          refine x_iconst hP dL_law_605 (v := 0) rfl ?_
          cases hf
      replace hf := p_f c132 hf
      by_cases c141 : v3 = 13
      · refine x_tswE hP dL_law_33 c141 (by decide) (by decide) (off := 574) rfl (tgt := 607) (by decide) ?_
        replace hf := p_t c141 hf
        refine x_aload_n hP dL_law_607 rfl ?_
        refine x_aloadX hP dL_law_608 rfl ?_
        refine x_iload_n hP dL_law_609 rfl ?_
        refine x_iconst hP dL_law_610 (v := 1) rfl ?_
        refine x_iadd hP dL_law_611 ?_
        obtain ⟨v142, hiv142, hv142, hf⟩ := b_xg hf
        refine x_xld hS hP hiv142 hv142 dL_law_612 ?_
        obtain ⟨t144, hc143, hf⟩ := b_bd hf
        refine y_cvi hP oX11_hours lL_72 [.int v142] [] rfl rfl rfl lay0 dL_law_613 (t_X11_hours (d := d - 1) (by omega) hc143) (by omega) ?_
        refine x_aload_n hP dL_law_616 rfl ?_
        refine x_aloadX hP dL_law_617 rfl ?_
        refine x_iload_n hP dL_law_618 rfl ?_
        refine x_iconst hP dL_law_619 (v := 1) rfl ?_
        refine x_iadd hP dL_law_620 ?_
        obtain ⟨v145, hiv145, hv145, hf⟩ := b_xg hf
        refine x_xld hS hP hiv145 hv145 dL_law_621 ?_
        obtain ⟨t147, hc146, hf⟩ := b_bd hf
        refine y_cvi hP oX12_hours lL_75 [.int v145] [.int t144.1] rfl rfl rfl lay67 dL_law_622 (t_X12_hours (d := d - 1) (by omega) hc146) (by omega) ?_
        refine x_icmp_eq hP dL_law_625 (tgt := 1314) (by decide) (fun c148 => ?_) (fun c148 => ?_)
        · replace hf := p_t c148 hf
          obtain ⟨v149, hv149, hf⟩ := b_lt hf
          refine x_iinc hP (v := v149) (ls2 := [some (.retAddr 9), some (.ref 0), some (.ref 67), some (.int v149)]) dL_law_1314 rfl (by rw [hv149]; rfl) rfl rfl ?_
          refine x_goto hP dL_law_1317 (tgt := 18) (by decide) ?_
          exact ih _ _ hf
        · replace hf := p_f c148 hf
          refine x_iconst hP dL_law_628 (v := 0) rfl ?_
          cases hf
      replace hf := p_f c141 hf
      by_cases c150 : v3 = 14
      · refine x_tswE hP dL_law_33 c150 (by decide) (by decide) (off := 597) rfl (tgt := 630) (by decide) ?_
        replace hf := p_t c150 hf
        refine x_aload_n hP dL_law_630 rfl ?_
        obtain ⟨t152, hc151, hf⟩ := b_bd hf
        refine y_cvi hP oX11_undo lL_76 [] [] rfl rfl rfl lay0 dL_law_631 (t_X11_undo (d := d - 1) (by omega) hc151) (by omega) ?_
        refine x_aload_n hP dL_law_634 rfl ?_
        obtain ⟨t154, hc153, hf⟩ := b_bd hf
        refine y_cvi hP oX12_undo lL_80 [] [.int t152.1] rfl rfl rfl lay67 dL_law_635 (t_X12_undo (d := d - 1) (by omega) hc153) (by omega) ?_
        refine x_icmp_eq hP dL_law_638 (tgt := 1314) (by decide) (fun c155 => ?_) (fun c155 => ?_)
        · replace hf := p_t c155 hf
          obtain ⟨v156, hv156, hf⟩ := b_lt hf
          refine x_iinc hP (v := v156) (ls2 := [some (.retAddr 9), some (.ref 0), some (.ref 67), some (.int v156)]) dL_law_1314 rfl (by rw [hv156]; rfl) rfl rfl ?_
          refine x_goto hP dL_law_1317 (tgt := 18) (by decide) ?_
          exact ih _ _ hf
        · replace hf := p_f c155 hf
          refine x_iconst hP dL_law_641 (v := 0) rfl ?_
          cases hf
      replace hf := p_f c150 hf
      by_cases c157 : v3 = 15
      · refine x_tswE hP dL_law_33 c157 (by decide) (by decide) (off := 610) rfl (tgt := 643) (by decide) ?_
        replace hf := p_t c157 hf
        refine x_aload_n hP dL_law_643 rfl ?_
        refine x_aloadX hP dL_law_644 rfl ?_
        refine x_iload_n hP dL_law_645 rfl ?_
        refine x_iconst hP dL_law_646 (v := 1) rfl ?_
        refine x_iadd hP dL_law_647 ?_
        obtain ⟨v158, hiv158, hv158, hf⟩ := b_xg hf
        refine x_xld hS hP hiv158 hv158 dL_law_648 ?_
        obtain ⟨t160, hc159, hf⟩ := b_bd hf
        refine y_cvi hP oX11_darkens lL_81 [.int v158] [] rfl rfl rfl lay0 dL_law_649 (t_X11_darkens (d := d - 1) (by omega) hc159) (by omega) ?_
        refine x_aload_n hP dL_law_652 rfl ?_
        refine x_aloadX hP dL_law_653 rfl ?_
        refine x_iload_n hP dL_law_654 rfl ?_
        refine x_iconst hP dL_law_655 (v := 1) rfl ?_
        refine x_iadd hP dL_law_656 ?_
        obtain ⟨v161, hiv161, hv161, hf⟩ := b_xg hf
        refine x_xld hS hP hiv161 hv161 dL_law_657 ?_
        obtain ⟨t163, hc162, hf⟩ := b_bd hf
        refine y_cvi hP oX12_darkens lL_84 [.int v161] [.int t160.1] rfl rfl rfl lay67 dL_law_658 (t_X12_darkens (d := d - 1) (by omega) hc162) (by omega) ?_
        refine x_icmp_eq hP dL_law_661 (tgt := 1314) (by decide) (fun c164 => ?_) (fun c164 => ?_)
        · replace hf := p_t c164 hf
          obtain ⟨v165, hv165, hf⟩ := b_lt hf
          refine x_iinc hP (v := v165) (ls2 := [some (.retAddr 9), some (.ref 0), some (.ref 67), some (.int v165)]) dL_law_1314 rfl (by rw [hv165]; rfl) rfl rfl ?_
          refine x_goto hP dL_law_1317 (tgt := 18) (by decide) ?_
          exact ih _ _ hf
        · replace hf := p_f c164 hf
          refine x_iconst hP dL_law_664 (v := 0) rfl ?_
          cases hf
      replace hf := p_f c157 hf
      by_cases c166 : v3 = 16
      · refine x_tswE hP dL_law_33 c166 (by decide) (by decide) (off := 633) rfl (tgt := 666) (by decide) ?_
        replace hf := p_t c166 hf
        refine x_aload_n hP dL_law_666 rfl ?_
        refine x_aloadX hP dL_law_667 rfl ?_
        refine x_iload_n hP dL_law_668 rfl ?_
        refine x_iconst hP dL_law_669 (v := 1) rfl ?_
        refine x_iadd hP dL_law_670 ?_
        obtain ⟨v167, hiv167, hv167, hf⟩ := b_xg hf
        refine x_xld hS hP hiv167 hv167 dL_law_671 ?_
        obtain ⟨t169, hc168, hf⟩ := b_bd hf
        refine y_cvi hP oX11_best lL_85 [.int v167] [] rfl rfl rfl lay0 dL_law_672 (t_X11_best (d := d - 1) (by omega) hc168) (by omega) ?_
        refine x_aload_n hP dL_law_675 rfl ?_
        refine x_aloadX hP dL_law_676 rfl ?_
        refine x_iload_n hP dL_law_677 rfl ?_
        refine x_iconst hP dL_law_678 (v := 1) rfl ?_
        refine x_iadd hP dL_law_679 ?_
        obtain ⟨v170, hiv170, hv170, hf⟩ := b_xg hf
        refine x_xld hS hP hiv170 hv170 dL_law_680 ?_
        obtain ⟨t172, hc171, hf⟩ := b_bd hf
        refine y_cvi hP oX12_best lL_88 [.int v170] [.int t169.1] rfl rfl rfl lay67 dL_law_681 (t_X12_best (d := d - 1) (by omega) hc171) (by omega) ?_
        refine x_icmp_eq hP dL_law_684 (tgt := 1314) (by decide) (fun c173 => ?_) (fun c173 => ?_)
        · replace hf := p_t c173 hf
          obtain ⟨v174, hv174, hf⟩ := b_lt hf
          refine x_iinc hP (v := v174) (ls2 := [some (.retAddr 9), some (.ref 0), some (.ref 67), some (.int v174)]) dL_law_1314 rfl (by rw [hv174]; rfl) rfl rfl ?_
          refine x_goto hP dL_law_1317 (tgt := 18) (by decide) ?_
          exact ih _ _ hf
        · replace hf := p_f c173 hf
          refine x_iconst hP dL_law_687 (v := 0) rfl ?_
          cases hf
      replace hf := p_f c166 hf
      by_cases c175 : v3 = 17
      · refine x_tswE hP dL_law_33 c175 (by decide) (by decide) (off := 656) rfl (tgt := 689) (by decide) ?_
        replace hf := p_t c175 hf
        refine x_aload_n hP dL_law_689 rfl ?_
        refine x_aloadX hP dL_law_690 rfl ?_
        refine x_iload_n hP dL_law_691 rfl ?_
        refine x_iconst hP dL_law_692 (v := 1) rfl ?_
        refine x_iadd hP dL_law_693 ?_
        obtain ⟨v176, hiv176, hv176, hf⟩ := b_xg hf
        refine x_xld hS hP hiv176 hv176 dL_law_694 ?_
        refine x_aloadX hP dL_law_695 rfl ?_
        refine x_iload_n hP dL_law_696 rfl ?_
        refine x_iconst hP dL_law_697 (v := 2) rfl ?_
        refine x_iadd hP dL_law_698 ?_
        obtain ⟨v177, hiv177, hv177, hf⟩ := b_xg hf
        refine x_xld hS hP hiv177 hv177 dL_law_699 ?_
        obtain ⟨t179, hc178, hf⟩ := b_bd hf
        refine y_cvi hP oX11_telling lL_89 [.int v176, .int v177] [] rfl rfl rfl lay0 dL_law_700 (t_X11_telling (d := d - 1) (by omega) hc178) (by omega) ?_
        refine x_aload_n hP dL_law_703 rfl ?_
        refine x_aloadX hP dL_law_704 rfl ?_
        refine x_iload_n hP dL_law_705 rfl ?_
        refine x_iconst hP dL_law_706 (v := 1) rfl ?_
        refine x_iadd hP dL_law_707 ?_
        obtain ⟨v180, hiv180, hv180, hf⟩ := b_xg hf
        refine x_xld hS hP hiv180 hv180 dL_law_708 ?_
        refine x_aloadX hP dL_law_709 rfl ?_
        refine x_iload_n hP dL_law_710 rfl ?_
        refine x_iconst hP dL_law_711 (v := 2) rfl ?_
        refine x_iadd hP dL_law_712 ?_
        obtain ⟨v181, hiv181, hv181, hf⟩ := b_xg hf
        refine x_xld hS hP hiv181 hv181 dL_law_713 ?_
        obtain ⟨t183, hc182, hf⟩ := b_bd hf
        refine y_cvi hP oX12_telling lL_92 [.int v180, .int v181] [.int t179.1] rfl rfl rfl lay67 dL_law_714 (t_X12_telling (d := d - 1) (by omega) hc182) (by omega) ?_
        refine x_icmp_eq hP dL_law_717 (tgt := 1314) (by decide) (fun c184 => ?_) (fun c184 => ?_)
        · replace hf := p_t c184 hf
          obtain ⟨v185, hv185, hf⟩ := b_lt hf
          refine x_iinc hP (v := v185) (ls2 := [some (.retAddr 9), some (.ref 0), some (.ref 67), some (.int v185)]) dL_law_1314 rfl (by rw [hv185]; rfl) rfl rfl ?_
          refine x_goto hP dL_law_1317 (tgt := 18) (by decide) ?_
          exact ih _ _ hf
        · replace hf := p_f c184 hf
          refine x_iconst hP dL_law_720 (v := 0) rfl ?_
          cases hf
      replace hf := p_f c175 hf
      by_cases c186 : v3 = 18
      · refine x_tswE hP dL_law_33 c186 (by decide) (by decide) (off := 689) rfl (tgt := 722) (by decide) ?_
        replace hf := p_t c186 hf
        refine x_aload_n hP dL_law_722 rfl ?_
        obtain ⟨t188, hc187, hf⟩ := b_bd hf
        refine y_cvi hP oX11_keep lL_93 [] [] rfl rfl rfl lay0 dL_law_723 (t_X11_keep (d := d - 1) (by omega) hc187) (by omega) ?_
        refine x_aload_n hP dL_law_726 rfl ?_
        obtain ⟨t190, hc189, hf⟩ := b_bd hf
        refine y_cvi hP oX12_keep lL_96 [] [.int t188.1] rfl rfl rfl lay67 dL_law_727 (t_X12_keep (d := d - 1) (by omega) hc189) (by omega) ?_
        refine x_icmp_eq hP dL_law_730 (tgt := 1314) (by decide) (fun c191 => ?_) (fun c191 => ?_)
        · replace hf := p_t c191 hf
          obtain ⟨v192, hv192, hf⟩ := b_lt hf
          refine x_iinc hP (v := v192) (ls2 := [some (.retAddr 9), some (.ref 0), some (.ref 67), some (.int v192)]) dL_law_1314 rfl (by rw [hv192]; rfl) rfl rfl ?_
          refine x_goto hP dL_law_1317 (tgt := 18) (by decide) ?_
          exact ih _ _ hf
        · replace hf := p_f c191 hf
          refine x_iconst hP dL_law_733 (v := 0) rfl ?_
          cases hf
      replace hf := p_f c186 hf
      by_cases c193 : v3 = 19
      · refine x_tswE hP dL_law_33 c193 (by decide) (by decide) (off := 702) rfl (tgt := 735) (by decide) ?_
        replace hf := p_t c193 hf
        refine x_aload_n hP dL_law_735 rfl ?_
        refine x_aloadX hP dL_law_736 rfl ?_
        refine x_iload_n hP dL_law_737 rfl ?_
        refine x_iconst hP dL_law_738 (v := 1) rfl ?_
        refine x_iadd hP dL_law_739 ?_
        obtain ⟨v194, hiv194, hv194, hf⟩ := b_xg hf
        refine x_xld hS hP hiv194 hv194 dL_law_740 ?_
        refine x_aloadX hP dL_law_741 rfl ?_
        refine x_iload_n hP dL_law_742 rfl ?_
        refine x_iconst hP dL_law_743 (v := 2) rfl ?_
        refine x_iadd hP dL_law_744 ?_
        obtain ⟨v195, hiv195, hv195, hf⟩ := b_xg hf
        refine x_xld hS hP hiv195 hv195 dL_law_745 ?_
        obtain ⟨t197, hc196, hf⟩ := b_bd hf
        refine y_cvi hP oX11_steps lL_97 [.int v194, .int v195] [] rfl rfl rfl lay0 dL_law_746 (t_X11_steps (d := d - 1) (by omega) hc196) (by omega) ?_
        refine x_aload_n hP dL_law_749 rfl ?_
        refine x_aloadX hP dL_law_750 rfl ?_
        refine x_iload_n hP dL_law_751 rfl ?_
        refine x_iconst hP dL_law_752 (v := 1) rfl ?_
        refine x_iadd hP dL_law_753 ?_
        obtain ⟨v198, hiv198, hv198, hf⟩ := b_xg hf
        refine x_xld hS hP hiv198 hv198 dL_law_754 ?_
        refine x_aloadX hP dL_law_755 rfl ?_
        refine x_iload_n hP dL_law_756 rfl ?_
        refine x_iconst hP dL_law_757 (v := 2) rfl ?_
        refine x_iadd hP dL_law_758 ?_
        obtain ⟨v199, hiv199, hv199, hf⟩ := b_xg hf
        refine x_xld hS hP hiv199 hv199 dL_law_759 ?_
        obtain ⟨t201, hc200, hf⟩ := b_bd hf
        refine y_cvi hP oX12_steps lL_100 [.int v198, .int v199] [.int t197.1] rfl rfl rfl lay67 dL_law_760 (t_X12_steps (d := d - 1) (by omega) hc200) (by omega) ?_
        refine x_icmp_eq hP dL_law_763 (tgt := 1314) (by decide) (fun c202 => ?_) (fun c202 => ?_)
        · replace hf := p_t c202 hf
          obtain ⟨v203, hv203, hf⟩ := b_lt hf
          refine x_iinc hP (v := v203) (ls2 := [some (.retAddr 9), some (.ref 0), some (.ref 67), some (.int v203)]) dL_law_1314 rfl (by rw [hv203]; rfl) rfl rfl ?_
          refine x_goto hP dL_law_1317 (tgt := 18) (by decide) ?_
          exact ih _ _ hf
        · replace hf := p_f c202 hf
          refine x_iconst hP dL_law_766 (v := 0) rfl ?_
          cases hf
      replace hf := p_f c193 hf
      by_cases c204 : v3 = 20
      · refine x_tswE hP dL_law_33 c204 (by decide) (by decide) (off := 735) rfl (tgt := 768) (by decide) ?_
        replace hf := p_t c204 hf
        refine x_aload_n hP dL_law_768 rfl ?_
        obtain ⟨t206, hc205, hf⟩ := b_bd hf
        refine y_cvi hP oX11_round lL_101 [] [] rfl rfl rfl lay0 dL_law_769 (t_X11_round (d := d - 1) (by omega) hc205) (by omega) ?_
        refine x_aload_n hP dL_law_772 rfl ?_
        obtain ⟨t208, hc207, hf⟩ := b_bd hf
        refine y_cvi hP oX12_round lL_104 [] [.int t206.1] rfl rfl rfl lay67 dL_law_773 (t_X12_round (d := d - 1) (by omega) hc207) (by omega) ?_
        refine x_icmp_eq hP dL_law_776 (tgt := 1314) (by decide) (fun c209 => ?_) (fun c209 => ?_)
        · replace hf := p_t c209 hf
          obtain ⟨v210, hv210, hf⟩ := b_lt hf
          refine x_iinc hP (v := v210) (ls2 := [some (.retAddr 9), some (.ref 0), some (.ref 67), some (.int v210)]) dL_law_1314 rfl (by rw [hv210]; rfl) rfl rfl ?_
          refine x_goto hP dL_law_1317 (tgt := 18) (by decide) ?_
          exact ih _ _ hf
        · replace hf := p_f c209 hf
          refine x_iconst hP dL_law_779 (v := 0) rfl ?_
          cases hf
      replace hf := p_f c204 hf
      by_cases c211 : v3 = 21
      · refine x_tswE hP dL_law_33 c211 (by decide) (by decide) (off := 748) rfl (tgt := 781) (by decide) ?_
        replace hf := p_t c211 hf
        refine x_aload_n hP dL_law_781 rfl ?_
        refine x_aloadX hP dL_law_782 rfl ?_
        refine x_iload_n hP dL_law_783 rfl ?_
        refine x_iconst hP dL_law_784 (v := 1) rfl ?_
        refine x_iadd hP dL_law_785 ?_
        obtain ⟨v212, hiv212, hv212, hf⟩ := b_xg hf
        refine x_xld hS hP hiv212 hv212 dL_law_786 ?_
        obtain ⟨t214, hc213, hf⟩ := b_bd hf
        refine y_cvi hP oX11_safe lL_105 [.int v212] [] rfl rfl rfl lay0 dL_law_787 (t_X11_safe (d := d - 1) (by omega) hc213) (by omega) ?_
        refine x_aload_n hP dL_law_790 rfl ?_
        refine x_aloadX hP dL_law_791 rfl ?_
        refine x_iload_n hP dL_law_792 rfl ?_
        refine x_iconst hP dL_law_793 (v := 1) rfl ?_
        refine x_iadd hP dL_law_794 ?_
        obtain ⟨v215, hiv215, hv215, hf⟩ := b_xg hf
        refine x_xld hS hP hiv215 hv215 dL_law_795 ?_
        obtain ⟨t217, hc216, hf⟩ := b_bd hf
        refine y_cvi hP oX12_safe lL_108 [.int v215] [.int t214.1] rfl rfl rfl lay67 dL_law_796 (t_X12_safe (d := d - 1) (by omega) hc216) (by omega) ?_
        refine x_icmp_eq hP dL_law_799 (tgt := 1314) (by decide) (fun c218 => ?_) (fun c218 => ?_)
        · replace hf := p_t c218 hf
          obtain ⟨v219, hv219, hf⟩ := b_lt hf
          refine x_iinc hP (v := v219) (ls2 := [some (.retAddr 9), some (.ref 0), some (.ref 67), some (.int v219)]) dL_law_1314 rfl (by rw [hv219]; rfl) rfl rfl ?_
          refine x_goto hP dL_law_1317 (tgt := 18) (by decide) ?_
          exact ih _ _ hf
        · replace hf := p_f c218 hf
          refine x_iconst hP dL_law_802 (v := 0) rfl ?_
          cases hf
      replace hf := p_f c211 hf
      by_cases c220 : v3 = 22
      · refine x_tswE hP dL_law_33 c220 (by decide) (by decide) (off := 771) rfl (tgt := 804) (by decide) ?_
        replace hf := p_t c220 hf
        refine x_aload_n hP dL_law_804 rfl ?_
        refine x_aloadX hP dL_law_805 rfl ?_
        refine x_iload_n hP dL_law_806 rfl ?_
        refine x_iconst hP dL_law_807 (v := 1) rfl ?_
        refine x_iadd hP dL_law_808 ?_
        obtain ⟨v221, hiv221, hv221, hf⟩ := b_xg hf
        refine x_xld hS hP hiv221 hv221 dL_law_809 ?_
        refine x_aloadX hP dL_law_810 rfl ?_
        refine x_iload_n hP dL_law_811 rfl ?_
        refine x_iconst hP dL_law_812 (v := 2) rfl ?_
        refine x_iadd hP dL_law_813 ?_
        obtain ⟨v222, hiv222, hv222, hf⟩ := b_xg hf
        refine x_xld hS hP hiv222 hv222 dL_law_814 ?_
        obtain ⟨t224, hc223, hf⟩ := b_bd hf
        refine y_cvi hP oX11_dark lL_109 [.int v221, .int v222] [] rfl rfl rfl lay0 dL_law_815 (t_X11_dark (d := d - 1) (by omega) hc223) (by omega) ?_
        refine x_aload_n hP dL_law_818 rfl ?_
        refine x_aloadX hP dL_law_819 rfl ?_
        refine x_iload_n hP dL_law_820 rfl ?_
        refine x_iconst hP dL_law_821 (v := 1) rfl ?_
        refine x_iadd hP dL_law_822 ?_
        obtain ⟨v225, hiv225, hv225, hf⟩ := b_xg hf
        refine x_xld hS hP hiv225 hv225 dL_law_823 ?_
        refine x_aloadX hP dL_law_824 rfl ?_
        refine x_iload_n hP dL_law_825 rfl ?_
        refine x_iconst hP dL_law_826 (v := 2) rfl ?_
        refine x_iadd hP dL_law_827 ?_
        obtain ⟨v226, hiv226, hv226, hf⟩ := b_xg hf
        refine x_xld hS hP hiv226 hv226 dL_law_828 ?_
        obtain ⟨t228, hc227, hf⟩ := b_bd hf
        refine y_cvi hP oX12_dark lL_112 [.int v225, .int v226] [.int t224.1] rfl rfl rfl lay67 dL_law_829 (t_X12_dark (d := d - 1) (by omega) hc227) (by omega) ?_
        refine x_icmp_eq hP dL_law_832 (tgt := 1314) (by decide) (fun c229 => ?_) (fun c229 => ?_)
        · replace hf := p_t c229 hf
          obtain ⟨v230, hv230, hf⟩ := b_lt hf
          refine x_iinc hP (v := v230) (ls2 := [some (.retAddr 9), some (.ref 0), some (.ref 67), some (.int v230)]) dL_law_1314 rfl (by rw [hv230]; rfl) rfl rfl ?_
          refine x_goto hP dL_law_1317 (tgt := 18) (by decide) ?_
          exact ih _ _ hf
        · replace hf := p_f c229 hf
          refine x_iconst hP dL_law_835 (v := 0) rfl ?_
          cases hf
      replace hf := p_f c220 hf
      by_cases c231 : v3 = 23
      · refine x_tswE hP dL_law_33 c231 (by decide) (by decide) (off := 804) rfl (tgt := 837) (by decide) ?_
        replace hf := p_t c231 hf
        refine x_aload_n hP dL_law_837 rfl ?_
        obtain ⟨t233, hc232, hf⟩ := b_bd hf
        refine y_cvi hP oX11_bridges lL_113 [] [] rfl rfl rfl lay0 dL_law_838 (t_X11_bridges (d := d - 1) (by omega) hc232) (by omega) ?_
        refine x_aload_n hP dL_law_841 rfl ?_
        obtain ⟨t235, hc234, hf⟩ := b_bd hf
        refine y_cvi hP oX12_bridges lL_116 [] [.int t233.1] rfl rfl rfl lay67 dL_law_842 (t_X12_bridges (d := d - 1) (by omega) hc234) (by omega) ?_
        refine x_icmp_eq hP dL_law_845 (tgt := 1314) (by decide) (fun c236 => ?_) (fun c236 => ?_)
        · replace hf := p_t c236 hf
          obtain ⟨v237, hv237, hf⟩ := b_lt hf
          refine x_iinc hP (v := v237) (ls2 := [some (.retAddr 9), some (.ref 0), some (.ref 67), some (.int v237)]) dL_law_1314 rfl (by rw [hv237]; rfl) rfl rfl ?_
          refine x_goto hP dL_law_1317 (tgt := 18) (by decide) ?_
          exact ih _ _ hf
        · replace hf := p_f c236 hf
          refine x_iconst hP dL_law_848 (v := 0) rfl ?_
          cases hf
      replace hf := p_f c231 hf
      by_cases c238 : v3 = 24
      · refine x_tswE hP dL_law_33 c238 (by decide) (by decide) (off := 817) rfl (tgt := 850) (by decide) ?_
        replace hf := p_t c238 hf
        refine x_aload_n hP dL_law_850 rfl ?_
        refine x_aloadX hP dL_law_851 rfl ?_
        refine x_iload_n hP dL_law_852 rfl ?_
        refine x_iconst hP dL_law_853 (v := 1) rfl ?_
        refine x_iadd hP dL_law_854 ?_
        obtain ⟨v239, hiv239, hv239, hf⟩ := b_xg hf
        refine x_xld hS hP hiv239 hv239 dL_law_855 ?_
        obtain ⟨t241, hc240, hf⟩ := b_bd hf
        refine y_cvi hP oX11_gather lL_117 [.int v239] [] rfl rfl rfl lay0 dL_law_856 (t_X11_gather (d := d - 1) (by omega) hc240) (by omega) ?_
        refine x_aload_n hP dL_law_859 rfl ?_
        refine x_aloadX hP dL_law_860 rfl ?_
        refine x_iload_n hP dL_law_861 rfl ?_
        refine x_iconst hP dL_law_862 (v := 1) rfl ?_
        refine x_iadd hP dL_law_863 ?_
        obtain ⟨v242, hiv242, hv242, hf⟩ := b_xg hf
        refine x_xld hS hP hiv242 hv242 dL_law_864 ?_
        obtain ⟨t244, hc243, hf⟩ := b_bd hf
        refine y_cvi hP oX12_gather lL_120 [.int v242] [.int t241.1] rfl rfl rfl lay67 dL_law_865 (t_X12_gather (d := d - 1) (by omega) hc243) (by omega) ?_
        refine x_icmp_eq hP dL_law_868 (tgt := 1314) (by decide) (fun c245 => ?_) (fun c245 => ?_)
        · replace hf := p_t c245 hf
          obtain ⟨v246, hv246, hf⟩ := b_lt hf
          refine x_iinc hP (v := v246) (ls2 := [some (.retAddr 9), some (.ref 0), some (.ref 67), some (.int v246)]) dL_law_1314 rfl (by rw [hv246]; rfl) rfl rfl ?_
          refine x_goto hP dL_law_1317 (tgt := 18) (by decide) ?_
          exact ih _ _ hf
        · replace hf := p_f c245 hf
          refine x_iconst hP dL_law_871 (v := 0) rfl ?_
          cases hf
      replace hf := p_f c238 hf
      by_cases c247 : v3 = 25
      · refine x_tswE hP dL_law_33 c247 (by decide) (by decide) (off := 840) rfl (tgt := 873) (by decide) ?_
        replace hf := p_t c247 hf
        refine x_aload_n hP dL_law_873 rfl ?_
        refine x_aloadX hP dL_law_874 rfl ?_
        refine x_iload_n hP dL_law_875 rfl ?_
        refine x_iconst hP dL_law_876 (v := 1) rfl ?_
        refine x_iadd hP dL_law_877 ?_
        obtain ⟨v248, hiv248, hv248, hf⟩ := b_xg hf
        refine x_xld hS hP hiv248 hv248 dL_law_878 ?_
        refine x_aloadX hP dL_law_879 rfl ?_
        refine x_iload_n hP dL_law_880 rfl ?_
        refine x_iconst hP dL_law_881 (v := 2) rfl ?_
        refine x_iadd hP dL_law_882 ?_
        obtain ⟨v249, hiv249, hv249, hf⟩ := b_xg hf
        refine x_xld hS hP hiv249 hv249 dL_law_883 ?_
        obtain ⟨v251, hc250, hf⟩ := b_bd hf
        refine y_cvi hP oX11_moves lL_121 [.int v248, .int v249] [] rfl rfl rfl lay0 dL_law_884 (t_X11_moves (d := d - 1) (by omega) hc250) (by omega) ?_
        refine x_aload_n hP dL_law_887 rfl ?_
        refine x_aloadX hP dL_law_888 rfl ?_
        refine x_iload_n hP dL_law_889 rfl ?_
        refine x_iconst hP dL_law_890 (v := 1) rfl ?_
        refine x_iadd hP dL_law_891 ?_
        obtain ⟨v252, hiv252, hv252, hf⟩ := b_xg hf
        refine x_xld hS hP hiv252 hv252 dL_law_892 ?_
        refine x_aloadX hP dL_law_893 rfl ?_
        refine x_iload_n hP dL_law_894 rfl ?_
        refine x_iconst hP dL_law_895 (v := 2) rfl ?_
        refine x_iadd hP dL_law_896 ?_
        obtain ⟨v253, hiv253, hv253, hf⟩ := b_xg hf
        refine x_xld hS hP hiv253 hv253 dL_law_897 ?_
        obtain ⟨t255, hc254, hf⟩ := b_bd hf
        refine y_cvi hP oX12_moves lL_124 [.int v252, .int v253] [.int v251] rfl rfl rfl lay67 dL_law_898 (t_X12_moves (d := d - 1) (by omega) hc254) (by omega) ?_
        refine x_icmp_eq hP dL_law_901 (tgt := 1314) (by decide) (fun c256 => ?_) (fun c256 => ?_)
        · replace hf := p_t c256 hf
          obtain ⟨v257, hv257, hf⟩ := b_lt hf
          refine x_iinc hP (v := v257) (ls2 := [some (.retAddr 9), some (.ref 0), some (.ref 67), some (.int v257)]) dL_law_1314 rfl (by rw [hv257]; rfl) rfl rfl ?_
          refine x_goto hP dL_law_1317 (tgt := 18) (by decide) ?_
          exact ih _ _ hf
        · replace hf := p_f c256 hf
          refine x_iconst hP dL_law_904 (v := 0) rfl ?_
          cases hf
      replace hf := p_f c247 hf
      by_cases c258 : v3 = 26
      · refine x_tswE hP dL_law_33 c258 (by decide) (by decide) (off := 873) rfl (tgt := 906) (by decide) ?_
        replace hf := p_t c258 hf
        refine x_aload_n hP dL_law_906 rfl ?_
        refine x_aloadX hP dL_law_907 rfl ?_
        refine x_iload_n hP dL_law_908 rfl ?_
        refine x_iconst hP dL_law_909 (v := 1) rfl ?_
        refine x_iadd hP dL_law_910 ?_
        obtain ⟨v259, hiv259, hv259, hf⟩ := b_xg hf
        refine x_xld hS hP hiv259 hv259 dL_law_911 ?_
        refine x_aloadX hP dL_law_912 rfl ?_
        refine x_iload_n hP dL_law_913 rfl ?_
        refine x_iconst hP dL_law_914 (v := 2) rfl ?_
        refine x_iadd hP dL_law_915 ?_
        obtain ⟨v260, hiv260, hv260, hf⟩ := b_xg hf
        refine x_xld hS hP hiv260 hv260 dL_law_916 ?_
        obtain ⟨v262, hc261, hf⟩ := b_bd hf
        refine y_cvi hP oX11_cut lL_125 [.int v259, .int v260] [] rfl rfl rfl lay0 dL_law_917 (t_X11_cut (d := d - 1) (by omega) hc261) (by omega) ?_
        refine x_aload_n hP dL_law_920 rfl ?_
        refine x_aloadX hP dL_law_921 rfl ?_
        refine x_iload_n hP dL_law_922 rfl ?_
        refine x_iconst hP dL_law_923 (v := 1) rfl ?_
        refine x_iadd hP dL_law_924 ?_
        obtain ⟨v263, hiv263, hv263, hf⟩ := b_xg hf
        refine x_xld hS hP hiv263 hv263 dL_law_925 ?_
        refine x_aloadX hP dL_law_926 rfl ?_
        refine x_iload_n hP dL_law_927 rfl ?_
        refine x_iconst hP dL_law_928 (v := 2) rfl ?_
        refine x_iadd hP dL_law_929 ?_
        obtain ⟨v264, hiv264, hv264, hf⟩ := b_xg hf
        refine x_xld hS hP hiv264 hv264 dL_law_930 ?_
        obtain ⟨t266, hc265, hf⟩ := b_bd hf
        refine y_cvi hP oX12_cut lL_128 [.int v263, .int v264] [.int v262] rfl rfl rfl lay67 dL_law_931 (t_X12_cut (d := d - 1) (by omega) hc265) (by omega) ?_
        refine x_icmp_eq hP dL_law_934 (tgt := 1314) (by decide) (fun c267 => ?_) (fun c267 => ?_)
        · replace hf := p_t c267 hf
          obtain ⟨v268, hv268, hf⟩ := b_lt hf
          refine x_iinc hP (v := v268) (ls2 := [some (.retAddr 9), some (.ref 0), some (.ref 67), some (.int v268)]) dL_law_1314 rfl (by rw [hv268]; rfl) rfl rfl ?_
          refine x_goto hP dL_law_1317 (tgt := 18) (by decide) ?_
          exact ih _ _ hf
        · replace hf := p_f c267 hf
          refine x_iconst hP dL_law_937 (v := 0) rfl ?_
          cases hf
      replace hf := p_f c258 hf
      by_cases c269 : v3 = 27
      · refine x_tswE hP dL_law_33 c269 (by decide) (by decide) (off := 906) rfl (tgt := 939) (by decide) ?_
        replace hf := p_t c269 hf
        refine x_aload_n hP dL_law_939 rfl ?_
        obtain ⟨v271, hc270, hf⟩ := b_bd hf
        refine y_cvi hP oX11_tree lL_129 [] [] rfl rfl rfl lay0 dL_law_940 (t_X11_tree (d := d - 1) (by omega) hc270) (by omega) ?_
        refine x_aload_n hP dL_law_943 rfl ?_
        obtain ⟨v273, hc272, hf⟩ := b_bd hf
        refine y_cvi hP oX12_tree lL_132 [] [.int v271] rfl rfl rfl lay67 dL_law_944 (t_X12_tree (d := d - 1) (by omega) hc272) (by omega) ?_
        refine x_icmp_eq hP dL_law_947 (tgt := 1314) (by decide) (fun c274 => ?_) (fun c274 => ?_)
        · replace hf := p_t c274 hf
          obtain ⟨v275, hv275, hf⟩ := b_lt hf
          refine x_iinc hP (v := v275) (ls2 := [some (.retAddr 9), some (.ref 0), some (.ref 67), some (.int v275)]) dL_law_1314 rfl (by rw [hv275]; rfl) rfl rfl ?_
          refine x_goto hP dL_law_1317 (tgt := 18) (by decide) ?_
          exact ih _ _ hf
        · replace hf := p_f c274 hf
          refine x_iconst hP dL_law_950 (v := 0) rfl ?_
          cases hf
      replace hf := p_f c269 hf
      by_cases c276 : v3 = 28
      · refine x_tswE hP dL_law_33 c276 (by decide) (by decide) (off := 919) rfl (tgt := 952) (by decide) ?_
        replace hf := p_t c276 hf
        refine x_aload_n hP dL_law_952 rfl ?_
        refine x_aloadX hP dL_law_953 rfl ?_
        refine x_iload_n hP dL_law_954 rfl ?_
        refine x_iconst hP dL_law_955 (v := 1) rfl ?_
        refine x_iadd hP dL_law_956 ?_
        obtain ⟨v277, hiv277, hv277, hf⟩ := b_xg hf
        refine x_xld hS hP hiv277 hv277 dL_law_957 ?_
        obtain ⟨t279, hc278, hf⟩ := b_bd hf
        refine y_cvi hP oX11_twins lL_133 [.int v277] [] rfl rfl rfl lay0 dL_law_958 (t_X11_twins (d := d - 1) (by omega) hc278) (by omega) ?_
        refine x_aload_n hP dL_law_961 rfl ?_
        refine x_aloadX hP dL_law_962 rfl ?_
        refine x_iload_n hP dL_law_963 rfl ?_
        refine x_iconst hP dL_law_964 (v := 1) rfl ?_
        refine x_iadd hP dL_law_965 ?_
        obtain ⟨v280, hiv280, hv280, hf⟩ := b_xg hf
        refine x_xld hS hP hiv280 hv280 dL_law_966 ?_
        obtain ⟨t282, hc281, hf⟩ := b_bd hf
        refine y_cvi hP oX12_twins lL_136 [.int v280] [.int t279.1] rfl rfl rfl lay67 dL_law_967 (t_X12_twins (d := d - 1) (by omega) hc281) (by omega) ?_
        refine x_icmp_eq hP dL_law_970 (tgt := 1314) (by decide) (fun c283 => ?_) (fun c283 => ?_)
        · replace hf := p_t c283 hf
          obtain ⟨v284, hv284, hf⟩ := b_lt hf
          refine x_iinc hP (v := v284) (ls2 := [some (.retAddr 9), some (.ref 0), some (.ref 67), some (.int v284)]) dL_law_1314 rfl (by rw [hv284]; rfl) rfl rfl ?_
          refine x_goto hP dL_law_1317 (tgt := 18) (by decide) ?_
          exact ih _ _ hf
        · replace hf := p_f c283 hf
          refine x_iconst hP dL_law_973 (v := 0) rfl ?_
          cases hf
      replace hf := p_f c276 hf
      by_cases c285 : v3 = 29
      · refine x_tswE hP dL_law_33 c285 (by decide) (by decide) (off := 942) rfl (tgt := 975) (by decide) ?_
        replace hf := p_t c285 hf
        refine x_aload_n hP dL_law_975 rfl ?_
        refine x_aloadX hP dL_law_976 rfl ?_
        refine x_iload_n hP dL_law_977 rfl ?_
        refine x_iconst hP dL_law_978 (v := 1) rfl ?_
        refine x_iadd hP dL_law_979 ?_
        obtain ⟨v286, hiv286, hv286, hf⟩ := b_xg hf
        refine x_xld hS hP hiv286 hv286 dL_law_980 ?_
        obtain ⟨v288, hc287, hf⟩ := b_bd hf
        refine y_cvi hP oX11_brightest lL_137 [.int v286] [] rfl rfl rfl lay0 dL_law_981 (t_X11_brightest (d := d - 1) (by omega) hc287) (by omega) ?_
        refine x_aload_n hP dL_law_984 rfl ?_
        refine x_aloadX hP dL_law_985 rfl ?_
        refine x_iload_n hP dL_law_986 rfl ?_
        refine x_iconst hP dL_law_987 (v := 1) rfl ?_
        refine x_iadd hP dL_law_988 ?_
        obtain ⟨v289, hiv289, hv289, hf⟩ := b_xg hf
        refine x_xld hS hP hiv289 hv289 dL_law_989 ?_
        obtain ⟨t291, hc290, hf⟩ := b_bd hf
        refine y_cvi hP oX12_brightest lL_140 [.int v289] [.int v288] rfl rfl rfl lay67 dL_law_990 (t_X12_brightest (d := d - 1) (by omega) hc290) (by omega) ?_
        refine x_icmp_eq hP dL_law_993 (tgt := 1314) (by decide) (fun c292 => ?_) (fun c292 => ?_)
        · replace hf := p_t c292 hf
          obtain ⟨v293, hv293, hf⟩ := b_lt hf
          refine x_iinc hP (v := v293) (ls2 := [some (.retAddr 9), some (.ref 0), some (.ref 67), some (.int v293)]) dL_law_1314 rfl (by rw [hv293]; rfl) rfl rfl ?_
          refine x_goto hP dL_law_1317 (tgt := 18) (by decide) ?_
          exact ih _ _ hf
        · replace hf := p_f c292 hf
          refine x_iconst hP dL_law_996 (v := 0) rfl ?_
          cases hf
      replace hf := p_f c285 hf
      by_cases c294 : v3 = 30
      · refine x_tswE hP dL_law_33 c294 (by decide) (by decide) (off := 965) rfl (tgt := 998) (by decide) ?_
        replace hf := p_t c294 hf
        refine x_aload_n hP dL_law_998 rfl ?_
        refine x_aloadX hP dL_law_999 rfl ?_
        refine x_iload_n hP dL_law_1000 rfl ?_
        refine x_iconst hP dL_law_1001 (v := 1) rfl ?_
        refine x_iadd hP dL_law_1002 ?_
        obtain ⟨v295, hiv295, hv295, hf⟩ := b_xg hf
        refine x_xld hS hP hiv295 hv295 dL_law_1003 ?_
        refine x_aloadX hP dL_law_1004 rfl ?_
        refine x_iload_n hP dL_law_1005 rfl ?_
        refine x_iconst hP dL_law_1006 (v := 2) rfl ?_
        refine x_iadd hP dL_law_1007 ?_
        obtain ⟨v296, hiv296, hv296, hf⟩ := b_xg hf
        refine x_xld hS hP hiv296 hv296 dL_law_1008 ?_
        obtain ⟨t298, hc297, hf⟩ := b_bd hf
        refine y_cvi hP oX11_glowIn lL_141 [.int v295, .int v296] [] rfl rfl rfl lay0 dL_law_1009 (t_X11_glowIn (d := d - 1) (by omega) hc297) (by omega) ?_
        refine x_aload_n hP dL_law_1012 rfl ?_
        refine x_aloadX hP dL_law_1013 rfl ?_
        refine x_iload_n hP dL_law_1014 rfl ?_
        refine x_iconst hP dL_law_1015 (v := 1) rfl ?_
        refine x_iadd hP dL_law_1016 ?_
        obtain ⟨v299, hiv299, hv299, hf⟩ := b_xg hf
        refine x_xld hS hP hiv299 hv299 dL_law_1017 ?_
        refine x_aloadX hP dL_law_1018 rfl ?_
        refine x_iload_n hP dL_law_1019 rfl ?_
        refine x_iconst hP dL_law_1020 (v := 2) rfl ?_
        refine x_iadd hP dL_law_1021 ?_
        obtain ⟨v300, hiv300, hv300, hf⟩ := b_xg hf
        refine x_xld hS hP hiv300 hv300 dL_law_1022 ?_
        obtain ⟨t302, hc301, hf⟩ := b_bd hf
        refine y_cvi hP oX12_glowIn lL_144 [.int v299, .int v300] [.int t298.1] rfl rfl rfl lay67 dL_law_1023 (t_X12_glowIn (d := d - 1) (by omega) hc301) (by omega) ?_
        refine x_icmp_eq hP dL_law_1026 (tgt := 1314) (by decide) (fun c303 => ?_) (fun c303 => ?_)
        · replace hf := p_t c303 hf
          obtain ⟨v304, hv304, hf⟩ := b_lt hf
          refine x_iinc hP (v := v304) (ls2 := [some (.retAddr 9), some (.ref 0), some (.ref 67), some (.int v304)]) dL_law_1314 rfl (by rw [hv304]; rfl) rfl rfl ?_
          refine x_goto hP dL_law_1317 (tgt := 18) (by decide) ?_
          exact ih _ _ hf
        · replace hf := p_f c303 hf
          refine x_iconst hP dL_law_1029 (v := 0) rfl ?_
          cases hf
      replace hf := p_f c294 hf
      by_cases c305 : v3 = 31
      · refine x_tswE hP dL_law_33 c305 (by decide) (by decide) (off := 998) rfl (tgt := 1031) (by decide) ?_
        replace hf := p_t c305 hf
        refine x_aload_n hP dL_law_1031 rfl ?_
        refine x_aloadX hP dL_law_1032 rfl ?_
        refine x_iload_n hP dL_law_1033 rfl ?_
        refine x_iconst hP dL_law_1034 (v := 1) rfl ?_
        refine x_iadd hP dL_law_1035 ?_
        obtain ⟨v306, hiv306, hv306, hf⟩ := b_xg hf
        refine x_xld hS hP hiv306 hv306 dL_law_1036 ?_
        refine x_aloadX hP dL_law_1037 rfl ?_
        refine x_iload_n hP dL_law_1038 rfl ?_
        refine x_iconst hP dL_law_1039 (v := 2) rfl ?_
        refine x_iadd hP dL_law_1040 ?_
        obtain ⟨v307, hiv307, hv307, hf⟩ := b_xg hf
        refine x_xld hS hP hiv307 hv307 dL_law_1041 ?_
        obtain ⟨t309, hc308, hf⟩ := b_bd hf
        refine y_cvi hP oX11_then lL_145 [.int v306, .int v307] [] rfl rfl rfl lay0 dL_law_1042 (t_X11_then (d := d - 1) (by omega) hc308) (by omega) ?_
        refine x_aload_n hP dL_law_1045 rfl ?_
        refine x_aloadX hP dL_law_1046 rfl ?_
        refine x_iload_n hP dL_law_1047 rfl ?_
        refine x_iconst hP dL_law_1048 (v := 1) rfl ?_
        refine x_iadd hP dL_law_1049 ?_
        obtain ⟨v310, hiv310, hv310, hf⟩ := b_xg hf
        refine x_xld hS hP hiv310 hv310 dL_law_1050 ?_
        refine x_aloadX hP dL_law_1051 rfl ?_
        refine x_iload_n hP dL_law_1052 rfl ?_
        refine x_iconst hP dL_law_1053 (v := 2) rfl ?_
        refine x_iadd hP dL_law_1054 ?_
        obtain ⟨v311, hiv311, hv311, hf⟩ := b_xg hf
        refine x_xld hS hP hiv311 hv311 dL_law_1055 ?_
        obtain ⟨t313, hc312, hf⟩ := b_bd hf
        refine y_cvi hP oX12_then lL_148 [.int v310, .int v311] [.int t309.1] rfl rfl rfl lay67 dL_law_1056 (t_X12_then (d := d - 1) (by omega) hc312) (by omega) ?_
        refine x_icmp_eq hP dL_law_1059 (tgt := 1314) (by decide) (fun c314 => ?_) (fun c314 => ?_)
        · replace hf := p_t c314 hf
          obtain ⟨v315, hv315, hf⟩ := b_lt hf
          refine x_iinc hP (v := v315) (ls2 := [some (.retAddr 9), some (.ref 0), some (.ref 67), some (.int v315)]) dL_law_1314 rfl (by rw [hv315]; rfl) rfl rfl ?_
          refine x_goto hP dL_law_1317 (tgt := 18) (by decide) ?_
          exact ih _ _ hf
        · replace hf := p_f c314 hf
          refine x_iconst hP dL_law_1062 (v := 0) rfl ?_
          cases hf
      replace hf := p_f c305 hf
      by_cases c316 : v3 = 32
      · refine x_tswE hP dL_law_33 c316 (by decide) (by decide) (off := 1031) rfl (tgt := 1064) (by decide) ?_
        replace hf := p_t c316 hf
        refine x_aload_n hP dL_law_1064 rfl ?_
        refine x_aloadX hP dL_law_1065 rfl ?_
        refine x_iload_n hP dL_law_1066 rfl ?_
        refine x_iconst hP dL_law_1067 (v := 1) rfl ?_
        refine x_iadd hP dL_law_1068 ?_
        obtain ⟨v317, hiv317, hv317, hf⟩ := b_xg hf
        refine x_xld hS hP hiv317 hv317 dL_law_1069 ?_
        refine x_aloadX hP dL_law_1070 rfl ?_
        refine x_iload_n hP dL_law_1071 rfl ?_
        refine x_iconst hP dL_law_1072 (v := 2) rfl ?_
        refine x_iadd hP dL_law_1073 ?_
        obtain ⟨v318, hiv318, hv318, hf⟩ := b_xg hf
        refine x_xld hS hP hiv318 hv318 dL_law_1074 ?_
        refine x_aloadX hP dL_law_1075 rfl ?_
        refine x_iload_n hP dL_law_1076 rfl ?_
        refine x_iconst hP dL_law_1077 (v := 3) rfl ?_
        refine x_iadd hP dL_law_1078 ?_
        obtain ⟨v319, hiv319, hv319, hf⟩ := b_xg hf
        refine x_xld hS hP hiv319 hv319 dL_law_1079 ?_
        obtain ⟨t321, hc320, hf⟩ := b_bd hf
        refine y_cvi hP oX11_year lL_149 [.int v317, .int v318, .int v319] [] rfl rfl rfl lay0 dL_law_1080 (t_X11_year (d := d - 1) (by omega) hc320) (by omega) ?_
        refine x_aload_n hP dL_law_1083 rfl ?_
        refine x_aloadX hP dL_law_1084 rfl ?_
        refine x_iload_n hP dL_law_1085 rfl ?_
        refine x_iconst hP dL_law_1086 (v := 1) rfl ?_
        refine x_iadd hP dL_law_1087 ?_
        obtain ⟨v322, hiv322, hv322, hf⟩ := b_xg hf
        refine x_xld hS hP hiv322 hv322 dL_law_1088 ?_
        refine x_aloadX hP dL_law_1089 rfl ?_
        refine x_iload_n hP dL_law_1090 rfl ?_
        refine x_iconst hP dL_law_1091 (v := 2) rfl ?_
        refine x_iadd hP dL_law_1092 ?_
        obtain ⟨v323, hiv323, hv323, hf⟩ := b_xg hf
        refine x_xld hS hP hiv323 hv323 dL_law_1093 ?_
        refine x_aloadX hP dL_law_1094 rfl ?_
        refine x_iload_n hP dL_law_1095 rfl ?_
        refine x_iconst hP dL_law_1096 (v := 3) rfl ?_
        refine x_iadd hP dL_law_1097 ?_
        obtain ⟨v324, hiv324, hv324, hf⟩ := b_xg hf
        refine x_xld hS hP hiv324 hv324 dL_law_1098 ?_
        obtain ⟨t326, hc325, hf⟩ := b_bd hf
        refine y_cvi hP oX12_year lL_152 [.int v322, .int v323, .int v324] [.int t321.1] rfl rfl rfl lay67 dL_law_1099 (t_X12_year (d := d - 1) (by omega) hc325) (by omega) ?_
        refine x_icmp_eq hP dL_law_1102 (tgt := 1314) (by decide) (fun c327 => ?_) (fun c327 => ?_)
        · replace hf := p_t c327 hf
          obtain ⟨v328, hv328, hf⟩ := b_lt hf
          refine x_iinc hP (v := v328) (ls2 := [some (.retAddr 9), some (.ref 0), some (.ref 67), some (.int v328)]) dL_law_1314 rfl (by rw [hv328]; rfl) rfl rfl ?_
          refine x_goto hP dL_law_1317 (tgt := 18) (by decide) ?_
          exact ih _ _ hf
        · replace hf := p_f c327 hf
          refine x_iconst hP dL_law_1105 (v := 0) rfl ?_
          cases hf
      replace hf := p_f c316 hf
      by_cases c329 : v3 = 33
      · refine x_tswE hP dL_law_33 c329 (by decide) (by decide) (off := 1074) rfl (tgt := 1107) (by decide) ?_
        replace hf := p_t c329 hf
        refine x_aload_n hP dL_law_1107 rfl ?_
        refine x_aloadX hP dL_law_1108 rfl ?_
        refine x_iload_n hP dL_law_1109 rfl ?_
        refine x_iconst hP dL_law_1110 (v := 1) rfl ?_
        refine x_iadd hP dL_law_1111 ?_
        obtain ⟨v330, hiv330, hv330, hf⟩ := b_xg hf
        refine x_xld hS hP hiv330 hv330 dL_law_1112 ?_
        refine x_aloadX hP dL_law_1113 rfl ?_
        refine x_iload_n hP dL_law_1114 rfl ?_
        refine x_iconst hP dL_law_1115 (v := 2) rfl ?_
        refine x_iadd hP dL_law_1116 ?_
        obtain ⟨v331, hiv331, hv331, hf⟩ := b_xg hf
        refine x_xld hS hP hiv331 hv331 dL_law_1117 ?_
        refine x_aloadX hP dL_law_1118 rfl ?_
        refine x_iload_n hP dL_law_1119 rfl ?_
        refine x_iconst hP dL_law_1120 (v := 3) rfl ?_
        refine x_iadd hP dL_law_1121 ?_
        obtain ⟨v332, hiv332, hv332, hf⟩ := b_xg hf
        refine x_xld hS hP hiv332 hv332 dL_law_1122 ?_
        obtain ⟨t333, het333, hf⟩ := b_lt hf
        have hj333 : P 1131 [some (.retAddr 9), some (.ref 0), some (.ref 67), some (.int l3)] [.int t333, .int v331, .int v330, .ref 0] LAY M := by
          obtain ⟨t336, hc335, hf⟩ := b_bd hf
          refine y_cvi hP oX11_tell lL_153 [.int v330, .int v331, .int t333] [] rfl rfl rfl lay0 dL_law_1131 (t_X11_tell (d := d - 1) (by omega) hc335) (by omega) ?_
          refine x_aload_n hP dL_law_1134 rfl ?_
          refine x_aloadX hP dL_law_1135 rfl ?_
          refine x_iload_n hP dL_law_1136 rfl ?_
          refine x_iconst hP dL_law_1137 (v := 1) rfl ?_
          refine x_iadd hP dL_law_1138 ?_
          obtain ⟨v337, hiv337, hv337, hf⟩ := b_xg hf
          refine x_xld hS hP hiv337 hv337 dL_law_1139 ?_
          refine x_aloadX hP dL_law_1140 rfl ?_
          refine x_iload_n hP dL_law_1141 rfl ?_
          refine x_iconst hP dL_law_1142 (v := 2) rfl ?_
          refine x_iadd hP dL_law_1143 ?_
          obtain ⟨v338, hiv338, hv338, hf⟩ := b_xg hf
          refine x_xld hS hP hiv338 hv338 dL_law_1144 ?_
          refine x_aloadX hP dL_law_1145 rfl ?_
          refine x_iload_n hP dL_law_1146 rfl ?_
          refine x_iconst hP dL_law_1147 (v := 3) rfl ?_
          refine x_iadd hP dL_law_1148 ?_
          obtain ⟨v339, hiv339, hv339, hf⟩ := b_xg hf
          refine x_xld hS hP hiv339 hv339 dL_law_1149 ?_
          obtain ⟨t340, het340, hf⟩ := b_lt hf
          have hj340 : P 1158 [some (.retAddr 9), some (.ref 0), some (.ref 67), some (.int l3)] [.int t340, .int v338, .int v337, .ref 67, .int t336.1] LAY t336.2 := by
            obtain ⟨t343, hc342, hf⟩ := b_bd hf
            refine y_cvi hP oX12_tell lL_157 [.int v337, .int v338, .int t340] [.int t336.1] rfl rfl rfl lay67 dL_law_1158 (t_X12_tell (d := d - 1) (by omega) hc342) (by omega) ?_
            refine x_icmp_eq hP dL_law_1161 (tgt := 1314) (by decide) (fun c344 => ?_) (fun c344 => ?_)
            · replace hf := p_t c344 hf
              obtain ⟨v345, hv345, hf⟩ := b_lt hf
              refine x_iinc hP (v := v345) (ls2 := [some (.retAddr 9), some (.ref 0), some (.ref 67), some (.int v345)]) dL_law_1314 rfl (by rw [hv345]; rfl) rfl rfl ?_
              refine x_goto hP dL_law_1317 (tgt := 18) (by decide) ?_
              exact ih _ _ hf
            · replace hf := p_f c344 hf
              refine x_iconst hP dL_law_1164 (v := 0) rfl ?_
              cases hf
          clear hf
          have hf := het340
          clear het340
          refine x_if_eq hP dL_law_1150 (tgt := 1157) (by decide) (fun c341 => ?_) (fun c341 => ?_)
          · replace hf := e_t c341 hf
            refine x_iconst hP dL_law_1157 (v := 0) rfl ?_
            refine x_drop hP [some (.retAddr 9), some (.ref 0), some (.ref 67), some (.int l3)] (And.intro rfl (And.intro rfl (And.intro rfl (And.intro rfl trivial)))) ?_
            subst hf
            exact hj340
          · replace hf := e_f c341 hf
            refine x_iconst hP dL_law_1153 (v := 1) rfl ?_
            refine x_goto hP dL_law_1154 (tgt := 1158) (by decide) ?_
            refine x_drop hP [some (.retAddr 9), some (.ref 0), some (.ref 67), some (.int l3)] (And.intro rfl (And.intro rfl (And.intro rfl (And.intro rfl trivial)))) ?_
            subst hf
            exact hj340
        clear hf
        have hf := het333
        clear het333
        refine x_if_eq hP dL_law_1123 (tgt := 1130) (by decide) (fun c334 => ?_) (fun c334 => ?_)
        · replace hf := e_t c334 hf
          refine x_iconst hP dL_law_1130 (v := 0) rfl ?_
          refine x_drop hP [some (.retAddr 9), some (.ref 0), some (.ref 67), some (.int l3)] (And.intro rfl (And.intro rfl (And.intro rfl (And.intro rfl trivial)))) ?_
          subst hf
          exact hj333
        · replace hf := e_f c334 hf
          refine x_iconst hP dL_law_1126 (v := 1) rfl ?_
          refine x_goto hP dL_law_1127 (tgt := 1131) (by decide) ?_
          refine x_drop hP [some (.retAddr 9), some (.ref 0), some (.ref 67), some (.int l3)] (And.intro rfl (And.intro rfl (And.intro rfl (And.intro rfl trivial)))) ?_
          subst hf
          exact hj333
      replace hf := p_f c329 hf
      by_cases c346 : v3 = 34
      · refine x_tswE hP dL_law_33 c346 (by decide) (by decide) (off := 1133) rfl (tgt := 1166) (by decide) ?_
        replace hf := p_t c346 hf
        refine x_aload_n hP dL_law_1166 rfl ?_
        obtain ⟨t348, hc347, hf⟩ := b_bd hf
        refine y_cvi hP oX11_forget lL_158 [] [] rfl rfl rfl lay0 dL_law_1167 (t_X11_forget (d := d - 1) (by omega) hc347) (by omega) ?_
        refine x_aload_n hP dL_law_1170 rfl ?_
        obtain ⟨t350, hc349, hf⟩ := b_bd hf
        refine y_cvi hP oX12_forget lL_161 [] [.int t348.1] rfl rfl rfl lay67 dL_law_1171 (t_X12_forget (d := d - 1) (by omega) hc349) (by omega) ?_
        refine x_icmp_eq hP dL_law_1174 (tgt := 1314) (by decide) (fun c351 => ?_) (fun c351 => ?_)
        · replace hf := p_t c351 hf
          obtain ⟨v352, hv352, hf⟩ := b_lt hf
          refine x_iinc hP (v := v352) (ls2 := [some (.retAddr 9), some (.ref 0), some (.ref 67), some (.int v352)]) dL_law_1314 rfl (by rw [hv352]; rfl) rfl rfl ?_
          refine x_goto hP dL_law_1317 (tgt := 18) (by decide) ?_
          exact ih _ _ hf
        · replace hf := p_f c351 hf
          refine x_iconst hP dL_law_1177 (v := 0) rfl ?_
          cases hf
      replace hf := p_f c346 hf
      by_cases c353 : v3 = 35
      · refine x_tswE hP dL_law_33 c353 (by decide) (by decide) (off := 1146) rfl (tgt := 1179) (by decide) ?_
        replace hf := p_t c353 hf
        refine x_aload_n hP dL_law_1179 rfl ?_
        refine x_aloadX hP dL_law_1180 rfl ?_
        refine x_iload_n hP dL_law_1181 rfl ?_
        refine x_iconst hP dL_law_1182 (v := 1) rfl ?_
        refine x_iadd hP dL_law_1183 ?_
        obtain ⟨v354, hiv354, hv354, hf⟩ := b_xg hf
        refine x_xld hS hP hiv354 hv354 dL_law_1184 ?_
        refine x_aloadX hP dL_law_1185 rfl ?_
        refine x_iload_n hP dL_law_1186 rfl ?_
        refine x_iconst hP dL_law_1187 (v := 2) rfl ?_
        refine x_iadd hP dL_law_1188 ?_
        obtain ⟨v355, hiv355, hv355, hf⟩ := b_xg hf
        refine x_xld hS hP hiv355 hv355 dL_law_1189 ?_
        obtain ⟨t357, hc356, hf⟩ := b_bd hf
        refine y_cvi hP oX11_words lL_162 [.int v354, .int v355] [] rfl rfl rfl lay0 dL_law_1190 (t_X11_words (d := d - 1) (by omega) hc356) (by omega) ?_
        refine x_aload_n hP dL_law_1193 rfl ?_
        refine x_aloadX hP dL_law_1194 rfl ?_
        refine x_iload_n hP dL_law_1195 rfl ?_
        refine x_iconst hP dL_law_1196 (v := 1) rfl ?_
        refine x_iadd hP dL_law_1197 ?_
        obtain ⟨v358, hiv358, hv358, hf⟩ := b_xg hf
        refine x_xld hS hP hiv358 hv358 dL_law_1198 ?_
        refine x_aloadX hP dL_law_1199 rfl ?_
        refine x_iload_n hP dL_law_1200 rfl ?_
        refine x_iconst hP dL_law_1201 (v := 2) rfl ?_
        refine x_iadd hP dL_law_1202 ?_
        obtain ⟨v359, hiv359, hv359, hf⟩ := b_xg hf
        refine x_xld hS hP hiv359 hv359 dL_law_1203 ?_
        obtain ⟨t361, hc360, hf⟩ := b_bd hf
        refine y_cvi hP oX12_words lL_165 [.int v358, .int v359] [.int t357.1] rfl rfl rfl lay67 dL_law_1204 (t_X12_words (d := d - 1) (by omega) hc360) (by omega) ?_
        refine x_icmp_eq hP dL_law_1207 (tgt := 1314) (by decide) (fun c362 => ?_) (fun c362 => ?_)
        · replace hf := p_t c362 hf
          obtain ⟨v363, hv363, hf⟩ := b_lt hf
          refine x_iinc hP (v := v363) (ls2 := [some (.retAddr 9), some (.ref 0), some (.ref 67), some (.int v363)]) dL_law_1314 rfl (by rw [hv363]; rfl) rfl rfl ?_
          refine x_goto hP dL_law_1317 (tgt := 18) (by decide) ?_
          exact ih _ _ hf
        · replace hf := p_f c362 hf
          refine x_iconst hP dL_law_1210 (v := 0) rfl ?_
          cases hf
      replace hf := p_f c353 hf
      by_cases c364 : v3 = 36
      · refine x_tswE hP dL_law_33 c364 (by decide) (by decide) (off := 1179) rfl (tgt := 1212) (by decide) ?_
        replace hf := p_t c364 hf
        refine x_aload_n hP dL_law_1212 rfl ?_
        refine x_aloadX hP dL_law_1213 rfl ?_
        refine x_iload_n hP dL_law_1214 rfl ?_
        refine x_iconst hP dL_law_1215 (v := 1) rfl ?_
        refine x_iadd hP dL_law_1216 ?_
        obtain ⟨v365, hiv365, hv365, hf⟩ := b_xg hf
        refine x_xld hS hP hiv365 hv365 dL_law_1217 ?_
        refine x_aloadX hP dL_law_1218 rfl ?_
        refine x_iload_n hP dL_law_1219 rfl ?_
        refine x_iconst hP dL_law_1220 (v := 2) rfl ?_
        refine x_iadd hP dL_law_1221 ?_
        obtain ⟨v366, hiv366, hv366, hf⟩ := b_xg hf
        refine x_xld hS hP hiv366 hv366 dL_law_1222 ?_
        obtain ⟨t368, hc367, hf⟩ := b_bd hf
        refine y_cvi hP oX11_look lL_166 [.int v365, .int v366] [] rfl rfl rfl lay0 dL_law_1223 (t_X11_look (d := d - 1) (by omega) hc367) (by omega) ?_
        refine x_aload_n hP dL_law_1226 rfl ?_
        refine x_aloadX hP dL_law_1227 rfl ?_
        refine x_iload_n hP dL_law_1228 rfl ?_
        refine x_iconst hP dL_law_1229 (v := 1) rfl ?_
        refine x_iadd hP dL_law_1230 ?_
        obtain ⟨v369, hiv369, hv369, hf⟩ := b_xg hf
        refine x_xld hS hP hiv369 hv369 dL_law_1231 ?_
        refine x_aloadX hP dL_law_1232 rfl ?_
        refine x_iload_n hP dL_law_1233 rfl ?_
        refine x_iconst hP dL_law_1234 (v := 2) rfl ?_
        refine x_iadd hP dL_law_1235 ?_
        obtain ⟨v370, hiv370, hv370, hf⟩ := b_xg hf
        refine x_xld hS hP hiv370 hv370 dL_law_1236 ?_
        obtain ⟨t372, hc371, hf⟩ := b_bd hf
        refine y_cvi hP oX12_look lL_169 [.int v369, .int v370] [.int t368.1] rfl rfl rfl lay67 dL_law_1237 (t_X12_look (d := d - 1) (by omega) hc371) (by omega) ?_
        refine x_icmp_eq hP dL_law_1240 (tgt := 1314) (by decide) (fun c373 => ?_) (fun c373 => ?_)
        · replace hf := p_t c373 hf
          obtain ⟨v374, hv374, hf⟩ := b_lt hf
          refine x_iinc hP (v := v374) (ls2 := [some (.retAddr 9), some (.ref 0), some (.ref 67), some (.int v374)]) dL_law_1314 rfl (by rw [hv374]; rfl) rfl rfl ?_
          refine x_goto hP dL_law_1317 (tgt := 18) (by decide) ?_
          exact ih _ _ hf
        · replace hf := p_f c373 hf
          refine x_iconst hP dL_law_1243 (v := 0) rfl ?_
          cases hf
      replace hf := p_f c364 hf
      by_cases c375 : v3 = 37
      · refine x_tswE hP dL_law_33 c375 (by decide) (by decide) (off := 1212) rfl (tgt := 1245) (by decide) ?_
        replace hf := p_t c375 hf
        refine x_aload_n hP dL_law_1245 rfl ?_
        refine x_aloadX hP dL_law_1246 rfl ?_
        refine x_iload_n hP dL_law_1247 rfl ?_
        refine x_iconst hP dL_law_1248 (v := 1) rfl ?_
        refine x_iadd hP dL_law_1249 ?_
        obtain ⟨v376, hiv376, hv376, hf⟩ := b_xg hf
        refine x_xld hS hP hiv376 hv376 dL_law_1250 ?_
        obtain ⟨t378, hc377, hf⟩ := b_bd hf
        refine y_cvi hP oX11_hold lL_170 [.int v376] [] rfl rfl rfl lay0 dL_law_1251 (t_X11_hold (d := d - 1) (by omega) hc377) (by omega) ?_
        refine x_aload_n hP dL_law_1254 rfl ?_
        refine x_aloadX hP dL_law_1255 rfl ?_
        refine x_iload_n hP dL_law_1256 rfl ?_
        refine x_iconst hP dL_law_1257 (v := 1) rfl ?_
        refine x_iadd hP dL_law_1258 ?_
        obtain ⟨v379, hiv379, hv379, hf⟩ := b_xg hf
        refine x_xld hS hP hiv379 hv379 dL_law_1259 ?_
        obtain ⟨t381, hc380, hf⟩ := b_bd hf
        refine y_cvi hP oX12_hold lL_173 [.int v379] [.int t378.1] rfl rfl rfl lay67 dL_law_1260 (t_X12_hold (d := d - 1) (by omega) hc380) (by omega) ?_
        refine x_icmp_eq hP dL_law_1263 (tgt := 1314) (by decide) (fun c382 => ?_) (fun c382 => ?_)
        · replace hf := p_t c382 hf
          obtain ⟨v383, hv383, hf⟩ := b_lt hf
          refine x_iinc hP (v := v383) (ls2 := [some (.retAddr 9), some (.ref 0), some (.ref 67), some (.int v383)]) dL_law_1314 rfl (by rw [hv383]; rfl) rfl rfl ?_
          refine x_goto hP dL_law_1317 (tgt := 18) (by decide) ?_
          exact ih _ _ hf
        · replace hf := p_f c382 hf
          refine x_iconst hP dL_law_1266 (v := 0) rfl ?_
          cases hf
      replace hf := p_f c375 hf
      by_cases c384 : v3 = 38
      · refine x_tswE hP dL_law_33 c384 (by decide) (by decide) (off := 1235) rfl (tgt := 1268) (by decide) ?_
        replace hf := p_t c384 hf
        refine x_aload_n hP dL_law_1268 rfl ?_
        refine x_aloadX hP dL_law_1269 rfl ?_
        refine x_iload_n hP dL_law_1270 rfl ?_
        refine x_iconst hP dL_law_1271 (v := 1) rfl ?_
        refine x_iadd hP dL_law_1272 ?_
        obtain ⟨v385, hiv385, hv385, hf⟩ := b_xg hf
        refine x_xld hS hP hiv385 hv385 dL_law_1273 ?_
        obtain ⟨t387, hc386, hf⟩ := b_bd hf
        refine y_cvi hP oX11_restore lL_174 [.int v385] [] rfl rfl rfl lay0 dL_law_1274 (t_X11_restore (d := d - 1) (by omega) hc386) (by omega) ?_
        refine x_aload_n hP dL_law_1277 rfl ?_
        refine x_aloadX hP dL_law_1278 rfl ?_
        refine x_iload_n hP dL_law_1279 rfl ?_
        refine x_iconst hP dL_law_1280 (v := 1) rfl ?_
        refine x_iadd hP dL_law_1281 ?_
        obtain ⟨v388, hiv388, hv388, hf⟩ := b_xg hf
        refine x_xld hS hP hiv388 hv388 dL_law_1282 ?_
        obtain ⟨t390, hc389, hf⟩ := b_bd hf
        refine y_cvi hP oX12_restore lL_177 [.int v388] [.int t387.1] rfl rfl rfl lay67 dL_law_1283 (t_X12_restore (d := d - 1) (by omega) hc389) (by omega) ?_
        refine x_icmp_eq hP dL_law_1286 (tgt := 1314) (by decide) (fun c391 => ?_) (fun c391 => ?_)
        · replace hf := p_t c391 hf
          obtain ⟨v392, hv392, hf⟩ := b_lt hf
          refine x_iinc hP (v := v392) (ls2 := [some (.retAddr 9), some (.ref 0), some (.ref 67), some (.int v392)]) dL_law_1314 rfl (by rw [hv392]; rfl) rfl rfl ?_
          refine x_goto hP dL_law_1317 (tgt := 18) (by decide) ?_
          exact ih _ _ hf
        · replace hf := p_f c391 hf
          refine x_iconst hP dL_law_1289 (v := 0) rfl ?_
          cases hf
      replace hf := p_f c384 hf
      by_cases c393 : v3 = 39
      · refine x_tswE hP dL_law_33 c393 (by decide) (by decide) (off := 1258) rfl (tgt := 1291) (by decide) ?_
        replace hf := p_t c393 hf
        refine x_aload_n hP dL_law_1291 rfl ?_
        refine x_aloadX hP dL_law_1292 rfl ?_
        refine x_iload_n hP dL_law_1293 rfl ?_
        refine x_iconst hP dL_law_1294 (v := 1) rfl ?_
        refine x_iadd hP dL_law_1295 ?_
        obtain ⟨v394, hiv394, hv394, hf⟩ := b_xg hf
        refine x_xld hS hP hiv394 hv394 dL_law_1296 ?_
        obtain ⟨v396, hc395, hf⟩ := b_bd hf
        refine y_cvi hP oX11_count lL_178 [.int v394] [] rfl rfl rfl lay0 dL_law_1297 (t_X11_count (d := d - 1) (by omega) hc395) (by omega) ?_
        refine x_aload_n hP dL_law_1300 rfl ?_
        refine x_aloadX hP dL_law_1301 rfl ?_
        refine x_iload_n hP dL_law_1302 rfl ?_
        refine x_iconst hP dL_law_1303 (v := 1) rfl ?_
        refine x_iadd hP dL_law_1304 ?_
        obtain ⟨v397, hiv397, hv397, hf⟩ := b_xg hf
        refine x_xld hS hP hiv397 hv397 dL_law_1305 ?_
        obtain ⟨t399, hc398, hf⟩ := b_bd hf
        refine y_cvi hP oX12_count lL_181 [.int v397] [.int v396] rfl rfl rfl lay67 dL_law_1306 (t_X12_count (d := d - 1) (by omega) hc398) (by omega) ?_
        refine x_icmp_eq hP dL_law_1309 (tgt := 1314) (by decide) (fun c400 => ?_) (fun c400 => ?_)
        · replace hf := p_t c400 hf
          obtain ⟨v401, hv401, hf⟩ := b_lt hf
          refine x_iinc hP (v := v401) (ls2 := [some (.retAddr 9), some (.ref 0), some (.ref 67), some (.int v401)]) dL_law_1314 rfl (by rw [hv401]; rfl) rfl rfl ?_
          refine x_goto hP dL_law_1317 (tgt := 18) (by decide) ?_
          exact ih _ _ hf
        · replace hf := p_f c400 hf
          refine x_iconst hP dL_law_1312 (v := 0) rfl ?_
          cases hf
      replace hf := p_f c393 hf
      refine x_tswD hP dL_law_33 [0, 1, 2, 3, 4, 5, 6, 7, 8, 9, 10, 11, 12, 13, 14, 15, 16, 17, 18, 19, 20, 21, 22, 23, 24, 25, 26, 27, 28, 29, 30, 31, 32, 33, 34, 35, 36, 37, 38, 39] (And.intro (neI c4) (And.intro (neI c21) (And.intro (neI c30) (And.intro (neI c37) (And.intro (neI c44) (And.intro (neI c55) (And.intro (neI c66) (And.intro (neI c77) (And.intro (neI c88) (And.intro (neI c101) (And.intro (neI c110) (And.intro (neI c121) (And.intro (neI c132) (And.intro (neI c141) (And.intro (neI c150) (And.intro (neI c157) (And.intro (neI c166) (And.intro (neI c175) (And.intro (neI c186) (And.intro (neI c193) (And.intro (neI c204) (And.intro (neI c211) (And.intro (neI c220) (And.intro (neI c231) (And.intro (neI c238) (And.intro (neI c247) (And.intro (neI c258) (And.intro (neI c269) (And.intro (neI c276) (And.intro (neI c285) (And.intro (neI c294) (And.intro (neI c305) (And.intro (neI c316) (And.intro (neI c329) (And.intro (neI c346) (And.intro (neI c353) (And.intro (neI c364) (And.intro (neI c375) (And.intro (neI c384) (And.intro (neI c393) trivial)))))))))))))))))))))))))))))))))))))))) (by decide) (by decide) (tgt := 1314) (by decide) ?_
      obtain ⟨v402, hv402, hf⟩ := b_lt hf
      refine x_iinc hP (v := v402) (ls2 := [some (.retAddr 9), some (.ref 0), some (.ref 67), some (.int v402)]) dL_law_1314 rfl (by rw [hv402]; rfl) rfl rfl ?_
      refine x_goto hP dL_law_1317 (tgt := 18) (by decide) ?_
      exact ih _ _ hf

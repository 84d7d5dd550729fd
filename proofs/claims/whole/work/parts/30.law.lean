def zrs (xs : Nat → Int32) (L : Nat) (i : Int32) : Option Int32 := if i < 0 ∨ L ≤ i.toNatClampNeg then none else some (xs i.toNatClampNeg)
def zXX (b L : Nat) (xs : Nat → Int32) (S0 nL : Nat) (cc : ByteArray) (J : zJ) : Prop :=
  ∃ (p : Program) (l : Launch) (e : Env) (R : Room) (s : State) (m : MethodId) (args : Array Value) (below : List Frame) (meth : Method) (c : Code) (N0 : Nat) (D : va_G) (cy : Nat → ClassId) (Q : State → Prop), J = zV p l e R s m args below meth c nL N0 S0 D cy Q ∧
    p.tables.exec = Jvm.exec ∧ c.code = cc ∧ va_X b L xs s s.heap ∧ b < s.heap.size ∧ b < S0
theorem zv_xald {b L : Nat} {xs : Nat → Int32} {S0 nL : Nat} {cc : ByteArray} {J : zJ} {pc : Nat} {lv : List (Nat × Value)} {st : List Value} {N : Nat} {rf : zRf} {h : zHp} {i x : Int32} (XX : zXX b L xs S0 nL cc J) (dg : decode cc pc = .ok (.iaload, 1)) (hr : zrs xs L i = some x) (K : J (pc + 1) lv (.int x :: st) N rf h) : J pc lv (.int i :: .retAddr b :: st) N rf h := by
  obtain ⟨p, l, e, R, s, m, args, below, meth, c, N0, D, cy, Q, rfl, hx, hb, hX, hbl, hbS⟩ := XX
  unfold zrs at hr
  split at hr
  · cases hr
  · next hin =>
    cases hr
    intro hN0 H locs ls hW hS hl
    exact va_sld hx hb hX hbl (A := fun q => S0 ≤ q) (Nat.not_le.mpr hbS) hS hin dg (K hN0 H locs ls hW hS hl)
theorem zv_xlen {b L : Nat} {xs : Nat → Int32} {S0 nL : Nat} {cc : ByteArray} {J : zJ} {pc : Nat} {lv : List (Nat × Value)} {st : List Value} {N : Nat} {rf : zRf} {h : zHp} (XX : zXX b L xs S0 nL cc J) (dg : decode cc pc = .ok (.arraylength, 1)) (K : J (pc + 1) lv (.int (Int32.ofNat L) :: st) N rf h) : J pc lv (.retAddr b :: st) N rf h := by
  obtain ⟨p, l, e, R, s, m, args, below, meth, c, N0, D, cy, Q, rfl, hx, hb, hX, hbl, hbS⟩ := XX
  intro hN0 H locs ls hW hS hl
  exact va_slen hx hb hX hbl (A := fun q => S0 ≤ q) (Nat.not_le.mpr hbS) hS dg (K hN0 H locs ls hW hS hl)
def s_law_L1462 (xs : Nat → Int32) (L : Nat) (k18 : Int32 → zHp → Option (Int32 × zHp)) (a3 : Int32) (h : zHp) : Option (Int32 × zHp) :=
  k18 (a3 + (6 : Int32)) h
def s_law_L534 (xs : Nat → Int32) (L : Nat) (k18 : Int32 → zHp → Option (Int32 × zHp)) (a3 : Int32) (b0 : Int32) (b2 : Int32) (b3 : Int32) (b4 : Int32) (h : zHp) : Option (Int32 × zHp) :=
  (s_X10_kin b2 b3 b4 h).bind fun q1 =>
  if b0 = q1.1 then
    s_law_L1462 xs L k18 a3 q1.2
  else
    some ((0 : Int32), q1.2)
def s_law_L507 (xs : Nat → Int32) (L : Nat) (k18 : Int32 → zHp → Option (Int32 × zHp)) (a3 : Int32) (b1 : Int32) (b2 : Int32) (b3 : Int32) (h : zHp) : Option (Int32 × zHp) :=
  (s_X9_kin b1 b2 b3 h).bind fun q1 =>
  (zrs xs L (a3 + (1 : Int32))).bind fun v2 =>
  (zrs xs L (a3 + (2 : Int32))).bind fun v3 =>
  (zrs xs L (a3 + (3 : Int32))).bind fun v4 =>
  if v4 = 0 then
    s_law_L534 xs L k18 a3 q1.1 v2 v3 (0 : Int32) q1.2
  else
    s_law_L534 xs L k18 a3 q1.1 v2 v3 (1 : Int32) q1.2
def s_law_L475 (xs : Nat → Int32) (L : Nat) (k18 : Int32 → zHp → Option (Int32 × zHp)) (a3 : Int32) (b0 : Int32) (b2 : Int32) (b3 : Int32) (h : zHp) : Option (Int32 × zHp) :=
  (s_X10_hard b2 b3 h).bind fun q1 =>
  if b0 = q1.1 then
    s_law_L1462 xs L k18 a3 q1.2
  else
    some ((0 : Int32), q1.2)
def s_law_L453 (xs : Nat → Int32) (L : Nat) (k18 : Int32 → zHp → Option (Int32 × zHp)) (a3 : Int32) (b1 : Int32) (b2 : Int32) (h : zHp) : Option (Int32 × zHp) :=
  (s_X9_hard b1 b2 h).bind fun q1 =>
  (zrs xs L (a3 + (1 : Int32))).bind fun v2 =>
  (zrs xs L (a3 + (2 : Int32))).bind fun v3 =>
  if v3 = 0 then
    s_law_L475 xs L k18 a3 q1.1 v2 (0 : Int32) q1.2
  else
    s_law_L475 xs L k18 a3 q1.1 v2 (1 : Int32) q1.2
def s_law_L18 (xs : Nat → Int32) (L : Nat) : Nat → Int32 → zHp → Option (Int32 × zHp)
  | 0, _, _ => none
  | f + 1, a3, h =>
  if ((Int32.ofNat L) - (6 : Int32)) < a3 then
    some ((1 : Int32), h)
  else
    (zrs xs L a3).bind fun v2 =>
    (some (v2 &&& (63 : Int32))).bind fun v3 =>
    if v3 = (0 : Int32) then
      (zrs xs L (a3 + (1 : Int32))).bind fun v5 =>
      (s_X9_days v5 h).bind fun q6 =>
      (zrs xs L (a3 + (1 : Int32))).bind fun v7 =>
      (s_X10_days v7 q6.2).bind fun q8 =>
      if q6.1 = q8.1 then
        s_law_L1462 xs L (s_law_L18 xs L f) a3 q8.2
      else
        some ((0 : Int32), q8.2)
    else
    if v3 = (1 : Int32) then
      (zrs xs L (a3 + (1 : Int32))).bind fun v11 =>
      (zrs xs L (a3 + (2 : Int32))).bind fun v12 =>
      (zrs xs L (a3 + (3 : Int32))).bind fun v13 =>
      (s_X9_code v11 v12 v13 h).bind fun q14 =>
      (zrs xs L (a3 + (1 : Int32))).bind fun v15 =>
      (zrs xs L (a3 + (2 : Int32))).bind fun v16 =>
      (zrs xs L (a3 + (3 : Int32))).bind fun v17 =>
      (s_X10_code v15 v16 v17 q14.2).bind fun q18 =>
      if q14.1 = q18.1 then
        s_law_L1462 xs L (s_law_L18 xs L f) a3 q18.2
      else
        some ((0 : Int32), q18.2)
    else
    if v3 = (2 : Int32) then
      (zrs xs L (a3 + (1 : Int32))).bind fun v21 =>
      (zrs xs L (a3 + (2 : Int32))).bind fun v22 =>
      (zrs xs L (a3 + (3 : Int32))).bind fun v23 =>
      (s_X9_turn v21 v22 v23 h).bind fun q24 =>
      (zrs xs L (a3 + (1 : Int32))).bind fun v25 =>
      (zrs xs L (a3 + (2 : Int32))).bind fun v26 =>
      (zrs xs L (a3 + (3 : Int32))).bind fun v27 =>
      (s_X10_turn v25 v26 v27 q24.2).bind fun q28 =>
      if q24.1 = q28.1 then
        s_law_L1462 xs L (s_law_L18 xs L f) a3 q28.2
      else
        some ((0 : Int32), q28.2)
    else
    if v3 = (3 : Int32) then
      (zrs xs L (a3 + (1 : Int32))).bind fun v31 =>
      (zrs xs L (a3 + (2 : Int32))).bind fun v32 =>
      (s_X9_stands v31 v32 h).bind fun q33 =>
      (zrs xs L (a3 + (1 : Int32))).bind fun v34 =>
      (zrs xs L (a3 + (2 : Int32))).bind fun v35 =>
      (s_X10_stands v34 v35 q33.2).bind fun q36 =>
      if q33.1 = q36.1 then
        s_law_L1462 xs L (s_law_L18 xs L f) a3 q36.2
      else
        some ((0 : Int32), q36.2)
    else
    if v3 = (4 : Int32) then
      (zrs xs L (a3 + (1 : Int32))).bind fun v39 =>
      (zrs xs L (a3 + (2 : Int32))).bind fun v40 =>
      (s_X9_most v39 v40 h).bind fun q41 =>
      (zrs xs L (a3 + (1 : Int32))).bind fun v42 =>
      (zrs xs L (a3 + (2 : Int32))).bind fun v43 =>
      (s_X10_most v42 v43 q41.2).bind fun q44 =>
      if q41.1 = q44.1 then
        s_law_L1462 xs L (s_law_L18 xs L f) a3 q44.2
      else
        some ((0 : Int32), q44.2)
    else
    if v3 = (5 : Int32) then
      (zrs xs L (a3 + (1 : Int32))).bind fun v47 =>
      (zrs xs L (a3 + (2 : Int32))).bind fun v48 =>
      (zrs xs L (a3 + (3 : Int32))).bind fun v49 =>
      (zrs xs L (a3 + (4 : Int32))).bind fun v50 =>
      (zrs xs L (a3 + (5 : Int32))).bind fun v51 =>
      (s_X9_kitchen v47 v48 v49 v50 v51 h).bind fun q52 =>
      (zrs xs L (a3 + (1 : Int32))).bind fun v53 =>
      (zrs xs L (a3 + (2 : Int32))).bind fun v54 =>
      (zrs xs L (a3 + (3 : Int32))).bind fun v55 =>
      (zrs xs L (a3 + (4 : Int32))).bind fun v56 =>
      (zrs xs L (a3 + (5 : Int32))).bind fun v57 =>
      (s_X10_kitchen v53 v54 v55 v56 v57 q52.2).bind fun q58 =>
      if q52.1 = q58.1 then
        s_law_L1462 xs L (s_law_L18 xs L f) a3 q58.2
      else
        some ((0 : Int32), q58.2)
    else
    if v3 = (6 : Int32) then
      (zrs xs L (a3 + (1 : Int32))).bind fun v61 =>
      (zrs xs L (a3 + (2 : Int32))).bind fun v62 =>
      if v62 = 0 then
        s_law_L453 xs L (s_law_L18 xs L f) a3 v61 (0 : Int32) h
      else
        s_law_L453 xs L (s_law_L18 xs L f) a3 v61 (1 : Int32) h
    else
    if v3 = (7 : Int32) then
      (zrs xs L (a3 + (1 : Int32))).bind fun v65 =>
      (zrs xs L (a3 + (2 : Int32))).bind fun v66 =>
      (zrs xs L (a3 + (3 : Int32))).bind fun v67 =>
      if v67 = 0 then
        s_law_L507 xs L (s_law_L18 xs L f) a3 v65 v66 (0 : Int32) h
      else
        s_law_L507 xs L (s_law_L18 xs L f) a3 v65 v66 (1 : Int32) h
    else
    if v3 = (8 : Int32) then
      (zrs xs L (a3 + (1 : Int32))).bind fun v70 =>
      (zrs xs L (a3 + (2 : Int32))).bind fun v71 =>
      (zrs xs L (a3 + (3 : Int32))).bind fun v72 =>
      (s_X9_look v70 v71 v72 h).bind fun q73 =>
      (zrs xs L (a3 + (1 : Int32))).bind fun v74 =>
      (zrs xs L (a3 + (2 : Int32))).bind fun v75 =>
      (zrs xs L (a3 + (3 : Int32))).bind fun v76 =>
      (s_X10_look v74 v75 v76 q73.2).bind fun q77 =>
      if q73.1 = q77.1 then
        s_law_L1462 xs L (s_law_L18 xs L f) a3 q77.2
      else
        some ((0 : Int32), q77.2)
    else
    if v3 = (9 : Int32) then
      (zrs xs L (a3 + (1 : Int32))).bind fun v80 =>
      (zrs xs L (a3 + (2 : Int32))).bind fun v81 =>
      (s_X9_find v80 v81 h).bind fun q82 =>
      (zrs xs L (a3 + (1 : Int32))).bind fun v83 =>
      (zrs xs L (a3 + (2 : Int32))).bind fun v84 =>
      (s_X10_find v83 v84 q82.2).bind fun q85 =>
      if q82.1 = q85.1 then
        s_law_L1462 xs L (s_law_L18 xs L f) a3 q85.2
      else
        some ((0 : Int32), q85.2)
    else
    if v3 = (10 : Int32) then
      (zrs xs L (a3 + (1 : Int32))).bind fun v88 =>
      (s_X9_back v88 h).bind fun q89 =>
      (zrs xs L (a3 + (1 : Int32))).bind fun v90 =>
      (s_X10_back v90 q89.2).bind fun q91 =>
      if q89.1 = q91.1 then
        s_law_L1462 xs L (s_law_L18 xs L f) a3 q91.2
      else
        some ((0 : Int32), q91.2)
    else
    if v3 = (11 : Int32) then
      (zrs xs L (a3 + (1 : Int32))).bind fun v94 =>
      (zrs xs L (a3 + (2 : Int32))).bind fun v95 =>
      (s_X9_score v94 v95 h).bind fun q96 =>
      (zrs xs L (a3 + (1 : Int32))).bind fun v97 =>
      (zrs xs L (a3 + (2 : Int32))).bind fun v98 =>
      (s_X10_score v97 v98 q96.2).bind fun q99 =>
      if q96.1 = q99.1 then
        s_law_L1462 xs L (s_law_L18 xs L f) a3 q99.2
      else
        some ((0 : Int32), q99.2)
    else
    if v3 = (12 : Int32) then
      (zrs xs L (a3 + (1 : Int32))).bind fun v102 =>
      (zrs xs L (a3 + (2 : Int32))).bind fun v103 =>
      (zrs xs L (a3 + (3 : Int32))).bind fun v104 =>
      (zrs xs L (a3 + (4 : Int32))).bind fun v105 =>
      (zrs xs L (a3 + (5 : Int32))).bind fun v106 =>
      (s_X9_table v102 v103 v104 v105 v106 h).bind fun q107 =>
      (zrs xs L (a3 + (1 : Int32))).bind fun v108 =>
      (zrs xs L (a3 + (2 : Int32))).bind fun v109 =>
      (zrs xs L (a3 + (3 : Int32))).bind fun v110 =>
      (zrs xs L (a3 + (4 : Int32))).bind fun v111 =>
      (zrs xs L (a3 + (5 : Int32))).bind fun v112 =>
      (s_X10_table v108 v109 v110 v111 v112 q107.2).bind fun q113 =>
      if q107.1 = q113.1 then
        s_law_L1462 xs L (s_law_L18 xs L f) a3 q113.2
      else
        some ((0 : Int32), q113.2)
    else
    if v3 = (13 : Int32) then
      (zrs xs L (a3 + (1 : Int32))).bind fun v116 =>
      (zrs xs L (a3 + (2 : Int32))).bind fun v117 =>
      (zrs xs L (a3 + (3 : Int32))).bind fun v118 =>
      (s_X9_star v116 v117 v118 h).bind fun q119 =>
      (zrs xs L (a3 + (1 : Int32))).bind fun v120 =>
      (zrs xs L (a3 + (2 : Int32))).bind fun v121 =>
      (zrs xs L (a3 + (3 : Int32))).bind fun v122 =>
      (s_X10_star v120 v121 v122 q119.2).bind fun q123 =>
      if q119.1 = q123.1 then
        s_law_L1462 xs L (s_law_L18 xs L f) a3 q123.2
      else
        some ((0 : Int32), q123.2)
    else
    if v3 = (14 : Int32) then
      (zrs xs L (a3 + (1 : Int32))).bind fun v126 =>
      (zrs xs L (a3 + (2 : Int32))).bind fun v127 =>
      (s_X9_show v126 v127 h).bind fun q128 =>
      (zrs xs L (a3 + (1 : Int32))).bind fun v129 =>
      (zrs xs L (a3 + (2 : Int32))).bind fun v130 =>
      (s_X10_show v129 v130 q128.2).bind fun q131 =>
      if q128.1 = q131.1 then
        s_law_L1462 xs L (s_law_L18 xs L f) a3 q131.2
      else
        some ((0 : Int32), q131.2)
    else
    if v3 = (15 : Int32) then
      (s_X9_falses h).bind fun q134 =>
      (s_X10_falses q134.2).bind fun q135 =>
      if q134.1 = q135.1 then
        s_law_L1462 xs L (s_law_L18 xs L f) a3 q135.2
      else
        some ((0 : Int32), q135.2)
    else
    if v3 = (16 : Int32) then
      (zrs xs L (a3 + (1 : Int32))).bind fun v138 =>
      (zrs xs L (a3 + (2 : Int32))).bind fun v139 =>
      (s_X9_base v138 v139 h).bind fun q140 =>
      (zrs xs L (a3 + (1 : Int32))).bind fun v141 =>
      (zrs xs L (a3 + (2 : Int32))).bind fun v142 =>
      (s_X10_base v141 v142 q140.2).bind fun q143 =>
      if q140.1 = q143.1 then
        s_law_L1462 xs L (s_law_L18 xs L f) a3 q143.2
      else
        some ((0 : Int32), q143.2)
    else
    if v3 = (17 : Int32) then
      (zrs xs L (a3 + (1 : Int32))).bind fun v146 =>
      (zrs xs L (a3 + (2 : Int32))).bind fun v147 =>
      (s_X9_risk v146 v147 h).bind fun q148 =>
      (zrs xs L (a3 + (1 : Int32))).bind fun v149 =>
      (zrs xs L (a3 + (2 : Int32))).bind fun v150 =>
      (s_X10_risk v149 v150 q148.2).bind fun q151 =>
      if q148.1 = q151.1 then
        s_law_L1462 xs L (s_law_L18 xs L f) a3 q151.2
      else
        some ((0 : Int32), q151.2)
    else
    if v3 = (18 : Int32) then
      (zrs xs L (a3 + (1 : Int32))).bind fun v154 =>
      (zrs xs L (a3 + (2 : Int32))).bind fun v155 =>
      (s_X9_delay v154 v155 h).bind fun q156 =>
      (zrs xs L (a3 + (1 : Int32))).bind fun v157 =>
      (zrs xs L (a3 + (2 : Int32))).bind fun v158 =>
      (s_X10_delay v157 v158 q156.2).bind fun q159 =>
      if q156.1 = q159.1 then
        s_law_L1462 xs L (s_law_L18 xs L f) a3 q159.2
      else
        some ((0 : Int32), q159.2)
    else
    if v3 = (19 : Int32) then
      (zrs xs L (a3 + (1 : Int32))).bind fun v162 =>
      (s_X9_capacity v162 h).bind fun q163 =>
      (zrs xs L (a3 + (1 : Int32))).bind fun v164 =>
      (s_X10_capacity v164 q163.2).bind fun q165 =>
      if q163.1 = q165.1 then
        s_law_L1462 xs L (s_law_L18 xs L f) a3 q165.2
      else
        some ((0 : Int32), q165.2)
    else
    if v3 = (20 : Int32) then
      (zrs xs L (a3 + (1 : Int32))).bind fun v168 =>
      (s_X9_rounds v168 h).bind fun q169 =>
      (zrs xs L (a3 + (1 : Int32))).bind fun v170 =>
      (s_X10_rounds v170 q169.2).bind fun q171 =>
      if q169.1 = q171.1 then
        s_law_L1462 xs L (s_law_L18 xs L f) a3 q171.2
      else
        some ((0 : Int32), q171.2)
    else
    if v3 = (21 : Int32) then
      (zrs xs L (a3 + (1 : Int32))).bind fun v174 =>
      (zrs xs L (a3 + (2 : Int32))).bind fun v175 =>
      (zrs xs L (a3 + (3 : Int32))).bind fun v176 =>
      (s_X9_roundOf v174 v175 v176 h).bind fun q177 =>
      (zrs xs L (a3 + (1 : Int32))).bind fun v178 =>
      (zrs xs L (a3 + (2 : Int32))).bind fun v179 =>
      (zrs xs L (a3 + (3 : Int32))).bind fun v180 =>
      (s_X10_roundOf v178 v179 v180 q177.2).bind fun q181 =>
      if q177.1 = q181.1 then
        s_law_L1462 xs L (s_law_L18 xs L f) a3 q181.2
      else
        some ((0 : Int32), q181.2)
    else
    if v3 = (22 : Int32) then
      (s_X9_doubles h).bind fun q184 =>
      (s_X10_doubles q184.2).bind fun q185 =>
      if q184.1 = q185.1 then
        s_law_L1462 xs L (s_law_L18 xs L f) a3 q185.2
      else
        some ((0 : Int32), q185.2)
    else
    if v3 = (23 : Int32) then
      (zrs xs L (a3 + (1 : Int32))).bind fun v188 =>
      (zrs xs L (a3 + (2 : Int32))).bind fun v189 =>
      (s_X9_habit v188 v189 h).bind fun q190 =>
      (zrs xs L (a3 + (1 : Int32))).bind fun v191 =>
      (zrs xs L (a3 + (2 : Int32))).bind fun v192 =>
      (s_X10_habit v191 v192 q190.2).bind fun q193 =>
      if q190.1 = q193.1 then
        s_law_L1462 xs L (s_law_L18 xs L f) a3 q193.2
      else
        some ((0 : Int32), q193.2)
    else
    if v3 = (24 : Int32) then
      (zrs xs L (a3 + (1 : Int32))).bind fun v196 =>
      (zrs xs L (a3 + (2 : Int32))).bind fun v197 =>
      (s_X9_evened v196 v197 h).bind fun q198 =>
      (zrs xs L (a3 + (1 : Int32))).bind fun v199 =>
      (zrs xs L (a3 + (2 : Int32))).bind fun v200 =>
      (s_X10_evened v199 v200 q198.2).bind fun q201 =>
      if q198.1 = q201.1 then
        s_law_L1462 xs L (s_law_L18 xs L f) a3 q201.2
      else
        some ((0 : Int32), q201.2)
    else
    if v3 = (25 : Int32) then
      (s_X9_others h).bind fun q204 =>
      (s_X10_others q204.2).bind fun q205 =>
      if q204.1 = q205.1 then
        s_law_L1462 xs L (s_law_L18 xs L f) a3 q205.2
      else
        some ((0 : Int32), q205.2)
    else
    if v3 = (26 : Int32) then
      (zrs xs L (a3 + (1 : Int32))).bind fun v208 =>
      (zrs xs L (a3 + (2 : Int32))).bind fun v209 =>
      (zrs xs L (a3 + (3 : Int32))).bind fun v210 =>
      (s_X9_swap v208 v209 v210 h).bind fun q211 =>
      (zrs xs L (a3 + (1 : Int32))).bind fun v212 =>
      (zrs xs L (a3 + (2 : Int32))).bind fun v213 =>
      (zrs xs L (a3 + (3 : Int32))).bind fun v214 =>
      (s_X10_swap v212 v213 v214 q211.2).bind fun q215 =>
      if q211.1 = q215.1 then
        s_law_L1462 xs L (s_law_L18 xs L f) a3 q215.2
      else
        some ((0 : Int32), q215.2)
    else
    if v3 = (27 : Int32) then
      (zrs xs L (a3 + (1 : Int32))).bind fun v218 =>
      (zrs xs L (a3 + (2 : Int32))).bind fun v219 =>
      (zrs xs L (a3 + (3 : Int32))).bind fun v220 =>
      (s_X9_shut v218 v219 v220 h).bind fun q221 =>
      (zrs xs L (a3 + (1 : Int32))).bind fun v222 =>
      (zrs xs L (a3 + (2 : Int32))).bind fun v223 =>
      (zrs xs L (a3 + (3 : Int32))).bind fun v224 =>
      (s_X10_shut v222 v223 v224 q221.2).bind fun q225 =>
      if q221.1 = q225.1 then
        s_law_L1462 xs L (s_law_L18 xs L f) a3 q225.2
      else
        some ((0 : Int32), q225.2)
    else
    if v3 = (28 : Int32) then
      (zrs xs L (a3 + (1 : Int32))).bind fun v228 =>
      (zrs xs L (a3 + (2 : Int32))).bind fun v229 =>
      (zrs xs L (a3 + (3 : Int32))).bind fun v230 =>
      (zrs xs L (a3 + (4 : Int32))).bind fun v231 =>
      (s_X9_complaint v228 v229 v230 v231 h).bind fun q232 =>
      (zrs xs L (a3 + (1 : Int32))).bind fun v233 =>
      (zrs xs L (a3 + (2 : Int32))).bind fun v234 =>
      (zrs xs L (a3 + (3 : Int32))).bind fun v235 =>
      (zrs xs L (a3 + (4 : Int32))).bind fun v236 =>
      (s_X10_complaint v233 v234 v235 v236 q232.2).bind fun q237 =>
      if q232.1 = q237.1 then
        s_law_L1462 xs L (s_law_L18 xs L f) a3 q237.2
      else
        some ((0 : Int32), q237.2)
    else
    if v3 = (29 : Int32) then
      (zrs xs L (a3 + (1 : Int32))).bind fun v240 =>
      (zrs xs L (a3 + (2 : Int32))).bind fun v241 =>
      (zrs xs L (a3 + (3 : Int32))).bind fun v242 =>
      (s_X9_part v240 v241 v242 h).bind fun q243 =>
      (zrs xs L (a3 + (1 : Int32))).bind fun v244 =>
      (zrs xs L (a3 + (2 : Int32))).bind fun v245 =>
      (zrs xs L (a3 + (3 : Int32))).bind fun v246 =>
      (s_X10_part v244 v245 v246 q243.2).bind fun q247 =>
      if q243.1 = q247.1 then
        s_law_L1462 xs L (s_law_L18 xs L f) a3 q247.2
      else
        some ((0 : Int32), q247.2)
    else
    if v3 = (30 : Int32) then
      (zrs xs L (a3 + (1 : Int32))).bind fun v250 =>
      (s_X9_joined v250 h).bind fun q251 =>
      (zrs xs L (a3 + (1 : Int32))).bind fun v252 =>
      (s_X10_joined v252 q251.2).bind fun q253 =>
      if q251.1 = q253.1 then
        s_law_L1462 xs L (s_law_L18 xs L f) a3 q253.2
      else
        some ((0 : Int32), q253.2)
    else
    if v3 = (31 : Int32) then
      (zrs xs L (a3 + (1 : Int32))).bind fun v256 =>
      (zrs xs L (a3 + (2 : Int32))).bind fun v257 =>
      (s_X9_began v256 v257 h).bind fun q258 =>
      (zrs xs L (a3 + (1 : Int32))).bind fun v259 =>
      (zrs xs L (a3 + (2 : Int32))).bind fun v260 =>
      (s_X10_began v259 v260 q258.2).bind fun q261 =>
      if q258.1 = q261.1 then
        s_law_L1462 xs L (s_law_L18 xs L f) a3 q261.2
      else
        some ((0 : Int32), q261.2)
    else
    if v3 = (32 : Int32) then
      (zrs xs L (a3 + (1 : Int32))).bind fun v264 =>
      (zrs xs L (a3 + (2 : Int32))).bind fun v265 =>
      (zrs xs L (a3 + (3 : Int32))).bind fun v266 =>
      (s_X9_cases v264 v265 v266 h).bind fun q267 =>
      (zrs xs L (a3 + (1 : Int32))).bind fun v268 =>
      (zrs xs L (a3 + (2 : Int32))).bind fun v269 =>
      (zrs xs L (a3 + (3 : Int32))).bind fun v270 =>
      (s_X10_cases v268 v269 v270 q267.2).bind fun q271 =>
      if q267.1 = q271.1 then
        s_law_L1462 xs L (s_law_L18 xs L f) a3 q271.2
      else
        some ((0 : Int32), q271.2)
    else
    if v3 = (33 : Int32) then
      (zrs xs L (a3 + (1 : Int32))).bind fun v274 =>
      (s_X9_effect v274 h).bind fun q275 =>
      (zrs xs L (a3 + (1 : Int32))).bind fun v276 =>
      (s_X10_effect v276 q275.2).bind fun q277 =>
      if q275.1 = q277.1 then
        s_law_L1462 xs L (s_law_L18 xs L f) a3 q277.2
      else
        some ((0 : Int32), q277.2)
    else
    if v3 = (34 : Int32) then
      (s_X9_chance h).bind fun q280 =>
      (s_X10_chance q280.2).bind fun q281 =>
      if q280.1 = q281.1 then
        s_law_L1462 xs L (s_law_L18 xs L f) a3 q281.2
      else
        some ((0 : Int32), q281.2)
    else
    if v3 = (35 : Int32) then
      (s_X9_helped h).bind fun q284 =>
      (s_X10_helped q284.2).bind fun q285 =>
      if q284.1 = q285.1 then
        s_law_L1462 xs L (s_law_L18 xs L f) a3 q285.2
      else
        some ((0 : Int32), q285.2)
    else
    if v3 = (36 : Int32) then
      (zrs xs L (a3 + (1 : Int32))).bind fun v288 =>
      (s_X9_count v288 h).bind fun q289 =>
      (zrs xs L (a3 + (1 : Int32))).bind fun v290 =>
      (s_X10_count v290 q289.2).bind fun q291 =>
      if q289.1 = q291.1 then
        s_law_L1462 xs L (s_law_L18 xs L f) a3 q291.2
      else
        some ((0 : Int32), q291.2)
    else
      s_law_L1462 xs L (s_law_L18 xs L f) a3 h
set_option maxRecDepth 100000 in
set_option maxHeartbeats 8000000 in
theorem k_law_L1462 {l : Launch} {D : va_G} {cy : Nat → ClassId} {S0 d : Nat} {b L : Nat} {xs : Nat → Int32} {J : zJ} (q : (Int32 × zHp)) (hd : 11 ≤ d) (X : zOK l D cy S0 d RL cL_law 4 (yL_law.name == "<init>") 0 117 (some .boolean) (zRT 117 zRF (some (.int q.1)) q.2) J) (XX : zXX b L xs S0 4 cL_law J) {k18 : Int32 → zHp → Option (Int32 × zHp)} (hk18 : ∀ (a3 : Int32) (h : zHp), k18 a3 h = some q → J 18 [(0, .retAddr b), (1, .ref 0), (2, .ref 67), (3, .int a3)] [] 117 zRF h) : ∀ (a3 : Int32) (h : zHp), s_law_L1462 xs L k18 a3 h = some q → J 1462 [(0, .retAddr b), (1, .ref 0), (2, .ref 67), (3, .int a3)] [] 117 zRF h := by
  intro a3 h e
  unfold s_law_L1462 at e
  refine zv_iinc (k := 3) (v := a3 + (6 : Int32)) (lv' := [(3, .int (a3 + (6 : Int32))), (0, .retAddr b), (1, .ref 0), (2, .ref 67)]) X dL_law_1462 rfl rfl (Nat.le_of_ble_eq_true rfl) rfl ?_
  refine zv_goto (tgt := 18) X dL_law_1465 (by decide) ?_
  exact zv_pick X [1, 2, 3, 0] rfl (hk18 _ _ e)
set_option maxRecDepth 100000 in
set_option maxHeartbeats 8000000 in
theorem k_law_L534 {l : Launch} {D : va_G} {cy : Nat → ClassId} {S0 d : Nat} {b L : Nat} {xs : Nat → Int32} {J : zJ} (q : (Int32 × zHp)) (hd : 11 ≤ d) (X : zOK l D cy S0 d RL cL_law 4 (yL_law.name == "<init>") 0 117 (some .boolean) (zRT 117 zRF (some (.int q.1)) q.2) J) (XX : zXX b L xs S0 4 cL_law J) {k18 : Int32 → zHp → Option (Int32 × zHp)} (hk18 : ∀ (a3 : Int32) (h : zHp), k18 a3 h = some q → J 18 [(0, .retAddr b), (1, .ref 0), (2, .ref 67), (3, .int a3)] [] 117 zRF h) : ∀ (a3 : Int32) (b0 : Int32) (b2 : Int32) (b3 : Int32) (b4 : Int32) (h : zHp), s_law_L534 xs L k18 a3 b0 b2 b3 b4 h = some q → J 534 [(0, .retAddr b), (1, .ref 0), (2, .ref 67), (3, .int a3)] [.int b4, .int b3, .int b2, .ref 67, .int b0] 117 zRF h := by
  intro a3 b0 b2 b3 b4 h e
  unfold s_law_L534 at e
  refine zb e (fun q1 gq1 e => ?_)
  refine zv_callV (stk := [.int b4, .int b3, .int b2, .ref 67, .int b0]) (as := [.int b2, .int b3, .int b4]) (st := [.int b0]) (k := 67) X zl_RL_50 zm_X10_kin (k_X10_kin (d := d - 1) (by omega) gq1) (by omega) zb_67 (by rw [zk_67]; rfl) rfl rfl (Nat.le_of_ble_eq_true rfl) (Nat.le_refl _) rfl dL_law_534 ?_
  show J 537 [(0, .retAddr b), (1, .ref 0), (2, .ref 67), (3, .int a3)] [.int q1.1, .int b0] 117 zRF q1.2
  refine zv_icmp_eq (tgt := 1462) X dL_law_537 (by decide) (fun c2 => ?_) (fun c2 => ?_)
  · replace e := zit e c2
    exact k_law_L1462 q hd X XX hk18 _ _ e
  · replace e := zif e c2
    refine zv_iconst (v := (0 : Int32)) X dL_law_540 zic_0 ?_
    exact zv_retZ X e rfl zbo_0 dL_law_541
set_option maxRecDepth 100000 in
set_option maxHeartbeats 8000000 in
theorem k_law_L507 {l : Launch} {D : va_G} {cy : Nat → ClassId} {S0 d : Nat} {b L : Nat} {xs : Nat → Int32} {J : zJ} (q : (Int32 × zHp)) (hd : 11 ≤ d) (X : zOK l D cy S0 d RL cL_law 4 (yL_law.name == "<init>") 0 117 (some .boolean) (zRT 117 zRF (some (.int q.1)) q.2) J) (XX : zXX b L xs S0 4 cL_law J) {k18 : Int32 → zHp → Option (Int32 × zHp)} (hk18 : ∀ (a3 : Int32) (h : zHp), k18 a3 h = some q → J 18 [(0, .retAddr b), (1, .ref 0), (2, .ref 67), (3, .int a3)] [] 117 zRF h) : ∀ (a3 : Int32) (b1 : Int32) (b2 : Int32) (b3 : Int32) (h : zHp), s_law_L507 xs L k18 a3 b1 b2 b3 h = some q → J 507 [(0, .retAddr b), (1, .ref 0), (2, .ref 67), (3, .int a3)] [.int b3, .int b2, .int b1, .ref 0] 117 zRF h := by
  intro a3 b1 b2 b3 h e
  unfold s_law_L507 at e
  refine zb e (fun q1 gq1 e => ?_)
  refine zv_callV (stk := [.int b3, .int b2, .int b1, .ref 0]) (as := [.int b1, .int b2, .int b3]) (st := []) (k := 0) X zl_RL_46 zm_X9_kin (k_X9_kin (d := d - 1) (by omega) gq1) (by omega) zb_0 (by rw [zk_0]; rfl) rfl rfl (Nat.le_of_ble_eq_true rfl) (Nat.le_refl _) rfl dL_law_507 ?_
  show J 510 [(0, .retAddr b), (1, .ref 0), (2, .ref 67), (3, .int a3)] [.int q1.1] 117 zRF q1.2
  refine zv_aload_n X dL_law_510 rfl rfl ?_
  refine zv_xload_n X dL_law_511 rfl rfl ?_
  refine zv_iload_n X dL_law_512 rfl rfl ?_
  refine zv_iconst (v := (1 : Int32)) X dL_law_513 zic_1 ?_
  refine zv_iadd X dL_law_514 ?_
  refine zb e (fun v2 gv2 e => ?_)
  refine zv_xald XX dL_law_515 gv2 ?_
  refine zv_xload_n X dL_law_516 rfl rfl ?_
  refine zv_iload_n X dL_law_517 rfl rfl ?_
  refine zv_iconst (v := (2 : Int32)) X dL_law_518 zic_2 ?_
  refine zv_iadd X dL_law_519 ?_
  refine zb e (fun v3 gv3 e => ?_)
  refine zv_xald XX dL_law_520 gv3 ?_
  refine zv_xload_n X dL_law_521 rfl rfl ?_
  refine zv_iload_n X dL_law_522 rfl rfl ?_
  refine zv_iconst (v := (3 : Int32)) X dL_law_523 zic_3 ?_
  refine zv_iadd X dL_law_524 ?_
  refine zb e (fun v4 gv4 e => ?_)
  refine zv_xald XX dL_law_525 gv4 ?_
  refine zv_if_eq (tgt := 533) X dL_law_526 (by decide) (fun c5 => ?_) (fun c5 => ?_)
  · replace e := zit e c5
    refine zv_iconst (v := (0 : Int32)) X dL_law_533 zic_0 ?_
    exact k_law_L534 q hd X XX hk18 _ _ _ _ _ _ e
  · replace e := zif e c5
    refine zv_iconst (v := (1 : Int32)) X dL_law_529 zic_1 ?_
    refine zv_goto (tgt := 534) X dL_law_530 (by decide) ?_
    exact k_law_L534 q hd X XX hk18 _ _ _ _ _ _ e
set_option maxRecDepth 100000 in
set_option maxHeartbeats 8000000 in
theorem k_law_L475 {l : Launch} {D : va_G} {cy : Nat → ClassId} {S0 d : Nat} {b L : Nat} {xs : Nat → Int32} {J : zJ} (q : (Int32 × zHp)) (hd : 11 ≤ d) (X : zOK l D cy S0 d RL cL_law 4 (yL_law.name == "<init>") 0 117 (some .boolean) (zRT 117 zRF (some (.int q.1)) q.2) J) (XX : zXX b L xs S0 4 cL_law J) {k18 : Int32 → zHp → Option (Int32 × zHp)} (hk18 : ∀ (a3 : Int32) (h : zHp), k18 a3 h = some q → J 18 [(0, .retAddr b), (1, .ref 0), (2, .ref 67), (3, .int a3)] [] 117 zRF h) : ∀ (a3 : Int32) (b0 : Int32) (b2 : Int32) (b3 : Int32) (h : zHp), s_law_L475 xs L k18 a3 b0 b2 b3 h = some q → J 475 [(0, .retAddr b), (1, .ref 0), (2, .ref 67), (3, .int a3)] [.int b3, .int b2, .ref 67, .int b0] 117 zRF h := by
  intro a3 b0 b2 b3 h e
  unfold s_law_L475 at e
  refine zb e (fun q1 gq1 e => ?_)
  refine zv_callV (stk := [.int b3, .int b2, .ref 67, .int b0]) (as := [.int b2, .int b3]) (st := [.int b0]) (k := 67) X zl_RL_45 zm_X10_hard (k_X10_hard (d := d - 1) (by omega) gq1) (by omega) zb_67 (by rw [zk_67]; rfl) rfl rfl (Nat.le_of_ble_eq_true rfl) (Nat.le_refl _) rfl dL_law_475 ?_
  show J 478 [(0, .retAddr b), (1, .ref 0), (2, .ref 67), (3, .int a3)] [.int q1.1, .int b0] 117 zRF q1.2
  refine zv_icmp_eq (tgt := 1462) X dL_law_478 (by decide) (fun c2 => ?_) (fun c2 => ?_)
  · replace e := zit e c2
    exact k_law_L1462 q hd X XX hk18 _ _ e
  · replace e := zif e c2
    refine zv_iconst (v := (0 : Int32)) X dL_law_481 zic_0 ?_
    exact zv_retZ X e rfl zbo_0 dL_law_482
set_option maxRecDepth 100000 in
set_option maxHeartbeats 8000000 in
theorem k_law_L453 {l : Launch} {D : va_G} {cy : Nat → ClassId} {S0 d : Nat} {b L : Nat} {xs : Nat → Int32} {J : zJ} (q : (Int32 × zHp)) (hd : 11 ≤ d) (X : zOK l D cy S0 d RL cL_law 4 (yL_law.name == "<init>") 0 117 (some .boolean) (zRT 117 zRF (some (.int q.1)) q.2) J) (XX : zXX b L xs S0 4 cL_law J) {k18 : Int32 → zHp → Option (Int32 × zHp)} (hk18 : ∀ (a3 : Int32) (h : zHp), k18 a3 h = some q → J 18 [(0, .retAddr b), (1, .ref 0), (2, .ref 67), (3, .int a3)] [] 117 zRF h) : ∀ (a3 : Int32) (b1 : Int32) (b2 : Int32) (h : zHp), s_law_L453 xs L k18 a3 b1 b2 h = some q → J 453 [(0, .retAddr b), (1, .ref 0), (2, .ref 67), (3, .int a3)] [.int b2, .int b1, .ref 0] 117 zRF h := by
  intro a3 b1 b2 h e
  unfold s_law_L453 at e
  refine zb e (fun q1 gq1 e => ?_)
  refine zv_callV (stk := [.int b2, .int b1, .ref 0]) (as := [.int b1, .int b2]) (st := []) (k := 0) X zl_RL_41 zm_X9_hard (k_X9_hard (d := d - 1) (by omega) gq1) (by omega) zb_0 (by rw [zk_0]; rfl) rfl rfl (Nat.le_of_ble_eq_true rfl) (Nat.le_refl _) rfl dL_law_453 ?_
  show J 456 [(0, .retAddr b), (1, .ref 0), (2, .ref 67), (3, .int a3)] [.int q1.1] 117 zRF q1.2
  refine zv_aload_n X dL_law_456 rfl rfl ?_
  refine zv_xload_n X dL_law_457 rfl rfl ?_
  refine zv_iload_n X dL_law_458 rfl rfl ?_
  refine zv_iconst (v := (1 : Int32)) X dL_law_459 zic_1 ?_
  refine zv_iadd X dL_law_460 ?_
  refine zb e (fun v2 gv2 e => ?_)
  refine zv_xald XX dL_law_461 gv2 ?_
  refine zv_xload_n X dL_law_462 rfl rfl ?_
  refine zv_iload_n X dL_law_463 rfl rfl ?_
  refine zv_iconst (v := (2 : Int32)) X dL_law_464 zic_2 ?_
  refine zv_iadd X dL_law_465 ?_
  refine zb e (fun v3 gv3 e => ?_)
  refine zv_xald XX dL_law_466 gv3 ?_
  refine zv_if_eq (tgt := 474) X dL_law_467 (by decide) (fun c4 => ?_) (fun c4 => ?_)
  · replace e := zit e c4
    refine zv_iconst (v := (0 : Int32)) X dL_law_474 zic_0 ?_
    exact k_law_L475 q hd X XX hk18 _ _ _ _ _ e
  · replace e := zif e c4
    refine zv_iconst (v := (1 : Int32)) X dL_law_470 zic_1 ?_
    refine zv_goto (tgt := 475) X dL_law_471 (by decide) ?_
    exact k_law_L475 q hd X XX hk18 _ _ _ _ _ e
set_option maxRecDepth 100000 in
set_option maxHeartbeats 8000000 in
theorem k_law_L18 {l : Launch} {D : va_G} {cy : Nat → ClassId} {S0 d : Nat} {b L : Nat} {xs : Nat → Int32} {J : zJ} (q : (Int32 × zHp)) (hd : 11 ≤ d) (X : zOK l D cy S0 d RL cL_law 4 (yL_law.name == "<init>") 0 117 (some .boolean) (zRT 117 zRF (some (.int q.1)) q.2) J) (XX : zXX b L xs S0 4 cL_law J) : ∀ (f : Nat) (a3 : Int32) (h : zHp), s_law_L18 xs L f a3 h = some q → J 18 [(0, .retAddr b), (1, .ref 0), (2, .ref 67), (3, .int a3)] [] 117 zRF h := by
  intro f
  induction f with
  | zero => intro _ h e; exact absurd e (fun z => by cases z)
  | succ f ih =>
    intro a3 h e
    rw [s_law_L18] at e
    refine zv_iload_n X dL_law_18 rfl rfl ?_
    refine zv_xload_n X dL_law_19 rfl rfl ?_
    refine zv_xlen XX dL_law_20 ?_
    refine zv_bipush (v := (6 : Int32)) X dL_law_21 zbp_6 ?_
    refine zv_isub X dL_law_23 ?_
    refine zv_icmp_gt (tgt := 1468) X dL_law_24 (by decide) (fun c1 => ?_) (fun c1 => ?_)
    · replace e := zit e c1
      refine zv_iconst (v := (1 : Int32)) X dL_law_1468 zic_1 ?_
      exact zv_retZ X e rfl zbo_1 dL_law_1469
    · replace e := zif e c1
      refine zv_xload_n X dL_law_27 rfl rfl ?_
      refine zv_iload_n X dL_law_28 rfl rfl ?_
      refine zb e (fun v2 gv2 e => ?_)
      refine zv_xald XX dL_law_29 gv2 ?_
      refine zv_bipush (v := (63 : Int32)) X dL_law_30 zbp_63 ?_
      refine zv_iand X dL_law_32 ?_
      refine zb e (fun v3 gv3 e => ?_)
      refine zv_nmI X gv3 ?_
      by_cases c4 : v3 = (0 : Int32)
      · replace e := zit e c4
        refine zv_tabIn (off := 163) (tgt := 196) X dL_law_33 (by rw [c4]; decide) (by rw [c4]; decide) (by rw [c4]; decide) (by decide) ?_
        refine zv_aload_n X dL_law_196 rfl rfl ?_
        refine zv_xload_n X dL_law_197 rfl rfl ?_
        refine zv_iload_n X dL_law_198 rfl rfl ?_
        refine zv_iconst (v := (1 : Int32)) X dL_law_199 zic_1 ?_
        refine zv_iadd X dL_law_200 ?_
        refine zb e (fun v5 gv5 e => ?_)
        refine zv_xald XX dL_law_201 gv5 ?_
        refine zb e (fun q6 gq6 e => ?_)
        refine zv_callV (stk := [.int v5, .ref 0]) (as := [.int v5]) (st := []) (k := 0) X zl_RL_13 zm_X9_days (k_X9_days (d := d - 1) (by omega) gq6) (by omega) zb_0 (by rw [zk_0]; rfl) rfl rfl (Nat.le_of_ble_eq_true rfl) (Nat.le_refl _) rfl dL_law_202 ?_
        show J 205 [(0, .retAddr b), (1, .ref 0), (2, .ref 67), (3, .int a3)] [.int q6.1] 117 zRF q6.2
        refine zv_aload_n X dL_law_205 rfl rfl ?_
        refine zv_xload_n X dL_law_206 rfl rfl ?_
        refine zv_iload_n X dL_law_207 rfl rfl ?_
        refine zv_iconst (v := (1 : Int32)) X dL_law_208 zic_1 ?_
        refine zv_iadd X dL_law_209 ?_
        refine zb e (fun v7 gv7 e => ?_)
        refine zv_xald XX dL_law_210 gv7 ?_
        refine zb e (fun q8 gq8 e => ?_)
        refine zv_callV (stk := [.int v7, .ref 67, .int q6.1]) (as := [.int v7]) (st := [.int q6.1]) (k := 67) X zl_RL_17 zm_X10_days (k_X10_days (d := d - 1) (by omega) gq8) (by omega) zb_67 (by rw [zk_67]; rfl) rfl rfl (Nat.le_of_ble_eq_true rfl) (Nat.le_refl _) rfl dL_law_211 ?_
        show J 214 [(0, .retAddr b), (1, .ref 0), (2, .ref 67), (3, .int a3)] [.int q8.1, .int q6.1] 117 zRF q8.2
        refine zv_icmp_eq (tgt := 1462) X dL_law_214 (by decide) (fun c9 => ?_) (fun c9 => ?_)
        · replace e := zit e c9
          exact k_law_L1462 q hd X XX ih _ _ e
        · replace e := zif e c9
          refine zv_iconst (v := (0 : Int32)) X dL_law_217 zic_0 ?_
          exact zv_retZ X e rfl zbo_0 dL_law_218
      replace e := zif e c4
      by_cases c10 : v3 = (1 : Int32)
      · replace e := zit e c10
        refine zv_tabIn (off := 186) (tgt := 219) X dL_law_33 (by rw [c10]; decide) (by rw [c10]; decide) (by rw [c10]; decide) (by decide) ?_
        refine zv_aload_n X dL_law_219 rfl rfl ?_
        refine zv_xload_n X dL_law_220 rfl rfl ?_
        refine zv_iload_n X dL_law_221 rfl rfl ?_
        refine zv_iconst (v := (1 : Int32)) X dL_law_222 zic_1 ?_
        refine zv_iadd X dL_law_223 ?_
        refine zb e (fun v11 gv11 e => ?_)
        refine zv_xald XX dL_law_224 gv11 ?_
        refine zv_xload_n X dL_law_225 rfl rfl ?_
        refine zv_iload_n X dL_law_226 rfl rfl ?_
        refine zv_iconst (v := (2 : Int32)) X dL_law_227 zic_2 ?_
        refine zv_iadd X dL_law_228 ?_
        refine zb e (fun v12 gv12 e => ?_)
        refine zv_xald XX dL_law_229 gv12 ?_
        refine zv_xload_n X dL_law_230 rfl rfl ?_
        refine zv_iload_n X dL_law_231 rfl rfl ?_
        refine zv_iconst (v := (3 : Int32)) X dL_law_232 zic_3 ?_
        refine zv_iadd X dL_law_233 ?_
        refine zb e (fun v13 gv13 e => ?_)
        refine zv_xald XX dL_law_234 gv13 ?_
        refine zb e (fun q14 gq14 e => ?_)
        refine zv_callV (stk := [.int v13, .int v12, .int v11, .ref 0]) (as := [.int v11, .int v12, .int v13]) (st := []) (k := 0) X zl_RL_18 zm_X9_code (k_X9_code (d := d - 1) (by omega) gq14) (by omega) zb_0 (by rw [zk_0]; rfl) rfl rfl (Nat.le_of_ble_eq_true rfl) (Nat.le_refl _) rfl dL_law_235 ?_
        show J 238 [(0, .retAddr b), (1, .ref 0), (2, .ref 67), (3, .int a3)] [.int q14.1] 117 zRF q14.2
        refine zv_aload_n X dL_law_238 rfl rfl ?_
        refine zv_xload_n X dL_law_239 rfl rfl ?_
        refine zv_iload_n X dL_law_240 rfl rfl ?_
        refine zv_iconst (v := (1 : Int32)) X dL_law_241 zic_1 ?_
        refine zv_iadd X dL_law_242 ?_
        refine zb e (fun v15 gv15 e => ?_)
        refine zv_xald XX dL_law_243 gv15 ?_
        refine zv_xload_n X dL_law_244 rfl rfl ?_
        refine zv_iload_n X dL_law_245 rfl rfl ?_
        refine zv_iconst (v := (2 : Int32)) X dL_law_246 zic_2 ?_
        refine zv_iadd X dL_law_247 ?_
        refine zb e (fun v16 gv16 e => ?_)
        refine zv_xald XX dL_law_248 gv16 ?_
        refine zv_xload_n X dL_law_249 rfl rfl ?_
        refine zv_iload_n X dL_law_250 rfl rfl ?_
        refine zv_iconst (v := (3 : Int32)) X dL_law_251 zic_3 ?_
        refine zv_iadd X dL_law_252 ?_
        refine zb e (fun v17 gv17 e => ?_)
        refine zv_xald XX dL_law_253 gv17 ?_
        refine zb e (fun q18 gq18 e => ?_)
        refine zv_callV (stk := [.int v17, .int v16, .int v15, .ref 67, .int q14.1]) (as := [.int v15, .int v16, .int v17]) (st := [.int q14.1]) (k := 67) X zl_RL_22 zm_X10_code (k_X10_code (d := d - 1) (by omega) gq18) (by omega) zb_67 (by rw [zk_67]; rfl) rfl rfl (Nat.le_of_ble_eq_true rfl) (Nat.le_refl _) rfl dL_law_254 ?_
        show J 257 [(0, .retAddr b), (1, .ref 0), (2, .ref 67), (3, .int a3)] [.int q18.1, .int q14.1] 117 zRF q18.2
        refine zv_icmp_eq (tgt := 1462) X dL_law_257 (by decide) (fun c19 => ?_) (fun c19 => ?_)
        · replace e := zit e c19
          exact k_law_L1462 q hd X XX ih _ _ e
        · replace e := zif e c19
          refine zv_iconst (v := (0 : Int32)) X dL_law_260 zic_0 ?_
          exact zv_retZ X e rfl zbo_0 dL_law_261
      replace e := zif e c10
      by_cases c20 : v3 = (2 : Int32)
      · replace e := zit e c20
        refine zv_tabIn (off := 229) (tgt := 262) X dL_law_33 (by rw [c20]; decide) (by rw [c20]; decide) (by rw [c20]; decide) (by decide) ?_
        refine zv_aload_n X dL_law_262 rfl rfl ?_
        refine zv_xload_n X dL_law_263 rfl rfl ?_
        refine zv_iload_n X dL_law_264 rfl rfl ?_
        refine zv_iconst (v := (1 : Int32)) X dL_law_265 zic_1 ?_
        refine zv_iadd X dL_law_266 ?_
        refine zb e (fun v21 gv21 e => ?_)
        refine zv_xald XX dL_law_267 gv21 ?_
        refine zv_xload_n X dL_law_268 rfl rfl ?_
        refine zv_iload_n X dL_law_269 rfl rfl ?_
        refine zv_iconst (v := (2 : Int32)) X dL_law_270 zic_2 ?_
        refine zv_iadd X dL_law_271 ?_
        refine zb e (fun v22 gv22 e => ?_)
        refine zv_xald XX dL_law_272 gv22 ?_
        refine zv_xload_n X dL_law_273 rfl rfl ?_
        refine zv_iload_n X dL_law_274 rfl rfl ?_
        refine zv_iconst (v := (3 : Int32)) X dL_law_275 zic_3 ?_
        refine zv_iadd X dL_law_276 ?_
        refine zb e (fun v23 gv23 e => ?_)
        refine zv_xald XX dL_law_277 gv23 ?_
        refine zb e (fun q24 gq24 e => ?_)
        refine zv_callV (stk := [.int v23, .int v22, .int v21, .ref 0]) (as := [.int v21, .int v22, .int v23]) (st := []) (k := 0) X zl_RL_23 zm_X9_turn (k_X9_turn (d := d - 1) (by omega) gq24) (by omega) zb_0 (by rw [zk_0]; rfl) rfl rfl (Nat.le_of_ble_eq_true rfl) (Nat.le_refl _) rfl dL_law_278 ?_
        show J 281 [(0, .retAddr b), (1, .ref 0), (2, .ref 67), (3, .int a3)] [.int q24.1] 117 zRF q24.2
        refine zv_aload_n X dL_law_281 rfl rfl ?_
        refine zv_xload_n X dL_law_282 rfl rfl ?_
        refine zv_iload_n X dL_law_283 rfl rfl ?_
        refine zv_iconst (v := (1 : Int32)) X dL_law_284 zic_1 ?_
        refine zv_iadd X dL_law_285 ?_
        refine zb e (fun v25 gv25 e => ?_)
        refine zv_xald XX dL_law_286 gv25 ?_
        refine zv_xload_n X dL_law_287 rfl rfl ?_
        refine zv_iload_n X dL_law_288 rfl rfl ?_
        refine zv_iconst (v := (2 : Int32)) X dL_law_289 zic_2 ?_
        refine zv_iadd X dL_law_290 ?_
        refine zb e (fun v26 gv26 e => ?_)
        refine zv_xald XX dL_law_291 gv26 ?_
        refine zv_xload_n X dL_law_292 rfl rfl ?_
        refine zv_iload_n X dL_law_293 rfl rfl ?_
        refine zv_iconst (v := (3 : Int32)) X dL_law_294 zic_3 ?_
        refine zv_iadd X dL_law_295 ?_
        refine zb e (fun v27 gv27 e => ?_)
        refine zv_xald XX dL_law_296 gv27 ?_
        refine zb e (fun q28 gq28 e => ?_)
        refine zv_callV (stk := [.int v27, .int v26, .int v25, .ref 67, .int q24.1]) (as := [.int v25, .int v26, .int v27]) (st := [.int q24.1]) (k := 67) X zl_RL_26 zm_X10_turn (k_X10_turn (d := d - 1) (by omega) gq28) (by omega) zb_67 (by rw [zk_67]; rfl) rfl rfl (Nat.le_of_ble_eq_true rfl) (Nat.le_refl _) rfl dL_law_297 ?_
        show J 300 [(0, .retAddr b), (1, .ref 0), (2, .ref 67), (3, .int a3)] [.int q28.1, .int q24.1] 117 zRF q28.2
        refine zv_icmp_eq (tgt := 1462) X dL_law_300 (by decide) (fun c29 => ?_) (fun c29 => ?_)
        · replace e := zit e c29
          exact k_law_L1462 q hd X XX ih _ _ e
        · replace e := zif e c29
          refine zv_iconst (v := (0 : Int32)) X dL_law_303 zic_0 ?_
          exact zv_retZ X e rfl zbo_0 dL_law_304
      replace e := zif e c20
      by_cases c30 : v3 = (3 : Int32)
      · replace e := zit e c30
        refine zv_tabIn (off := 272) (tgt := 305) X dL_law_33 (by rw [c30]; decide) (by rw [c30]; decide) (by rw [c30]; decide) (by decide) ?_
        refine zv_aload_n X dL_law_305 rfl rfl ?_
        refine zv_xload_n X dL_law_306 rfl rfl ?_
        refine zv_iload_n X dL_law_307 rfl rfl ?_
        refine zv_iconst (v := (1 : Int32)) X dL_law_308 zic_1 ?_
        refine zv_iadd X dL_law_309 ?_
        refine zb e (fun v31 gv31 e => ?_)
        refine zv_xald XX dL_law_310 gv31 ?_
        refine zv_xload_n X dL_law_311 rfl rfl ?_
        refine zv_iload_n X dL_law_312 rfl rfl ?_
        refine zv_iconst (v := (2 : Int32)) X dL_law_313 zic_2 ?_
        refine zv_iadd X dL_law_314 ?_
        refine zb e (fun v32 gv32 e => ?_)
        refine zv_xald XX dL_law_315 gv32 ?_
        refine zb e (fun q33 gq33 e => ?_)
        refine zv_callV (stk := [.int v32, .int v31, .ref 0]) (as := [.int v31, .int v32]) (st := []) (k := 0) X zl_RL_27 zm_X9_stands (k_X9_stands (d := d - 1) (by omega) gq33) (by omega) zb_0 (by rw [zk_0]; rfl) rfl rfl (Nat.le_of_ble_eq_true rfl) (Nat.le_refl _) rfl dL_law_316 ?_
        show J 319 [(0, .retAddr b), (1, .ref 0), (2, .ref 67), (3, .int a3)] [.int q33.1] 117 zRF q33.2
        refine zv_aload_n X dL_law_319 rfl rfl ?_
        refine zv_xload_n X dL_law_320 rfl rfl ?_
        refine zv_iload_n X dL_law_321 rfl rfl ?_
        refine zv_iconst (v := (1 : Int32)) X dL_law_322 zic_1 ?_
        refine zv_iadd X dL_law_323 ?_
        refine zb e (fun v34 gv34 e => ?_)
        refine zv_xald XX dL_law_324 gv34 ?_
        refine zv_xload_n X dL_law_325 rfl rfl ?_
        refine zv_iload_n X dL_law_326 rfl rfl ?_
        refine zv_iconst (v := (2 : Int32)) X dL_law_327 zic_2 ?_
        refine zv_iadd X dL_law_328 ?_
        refine zb e (fun v35 gv35 e => ?_)
        refine zv_xald XX dL_law_329 gv35 ?_
        refine zb e (fun q36 gq36 e => ?_)
        refine zv_callV (stk := [.int v35, .int v34, .ref 67, .int q33.1]) (as := [.int v34, .int v35]) (st := [.int q33.1]) (k := 67) X zl_RL_31 zm_X10_stands (k_X10_stands (d := d - 1) (by omega) gq36) (by omega) zb_67 (by rw [zk_67]; rfl) rfl rfl (Nat.le_of_ble_eq_true rfl) (Nat.le_refl _) rfl dL_law_330 ?_
        show J 333 [(0, .retAddr b), (1, .ref 0), (2, .ref 67), (3, .int a3)] [.int q36.1, .int q33.1] 117 zRF q36.2
        refine zv_icmp_eq (tgt := 1462) X dL_law_333 (by decide) (fun c37 => ?_) (fun c37 => ?_)
        · replace e := zit e c37
          exact k_law_L1462 q hd X XX ih _ _ e
        · replace e := zif e c37
          refine zv_iconst (v := (0 : Int32)) X dL_law_336 zic_0 ?_
          exact zv_retZ X e rfl zbo_0 dL_law_337
      replace e := zif e c30
      by_cases c38 : v3 = (4 : Int32)
      · replace e := zit e c38
        refine zv_tabIn (off := 305) (tgt := 338) X dL_law_33 (by rw [c38]; decide) (by rw [c38]; decide) (by rw [c38]; decide) (by decide) ?_
        refine zv_aload_n X dL_law_338 rfl rfl ?_
        refine zv_xload_n X dL_law_339 rfl rfl ?_
        refine zv_iload_n X dL_law_340 rfl rfl ?_
        refine zv_iconst (v := (1 : Int32)) X dL_law_341 zic_1 ?_
        refine zv_iadd X dL_law_342 ?_
        refine zb e (fun v39 gv39 e => ?_)
        refine zv_xald XX dL_law_343 gv39 ?_
        refine zv_xload_n X dL_law_344 rfl rfl ?_
        refine zv_iload_n X dL_law_345 rfl rfl ?_
        refine zv_iconst (v := (2 : Int32)) X dL_law_346 zic_2 ?_
        refine zv_iadd X dL_law_347 ?_
        refine zb e (fun v40 gv40 e => ?_)
        refine zv_xald XX dL_law_348 gv40 ?_
        refine zb e (fun q41 gq41 e => ?_)
        refine zv_callV (stk := [.int v40, .int v39, .ref 0]) (as := [.int v39, .int v40]) (st := []) (k := 0) X zl_RL_32 zm_X9_most (k_X9_most (d := d - 1) (by omega) gq41) (by omega) zb_0 (by rw [zk_0]; rfl) rfl rfl (Nat.le_of_ble_eq_true rfl) (Nat.le_refl _) rfl dL_law_349 ?_
        show J 352 [(0, .retAddr b), (1, .ref 0), (2, .ref 67), (3, .int a3)] [.int q41.1] 117 zRF q41.2
        refine zv_aload_n X dL_law_352 rfl rfl ?_
        refine zv_xload_n X dL_law_353 rfl rfl ?_
        refine zv_iload_n X dL_law_354 rfl rfl ?_
        refine zv_iconst (v := (1 : Int32)) X dL_law_355 zic_1 ?_
        refine zv_iadd X dL_law_356 ?_
        refine zb e (fun v42 gv42 e => ?_)
        refine zv_xald XX dL_law_357 gv42 ?_
        refine zv_xload_n X dL_law_358 rfl rfl ?_
        refine zv_iload_n X dL_law_359 rfl rfl ?_
        refine zv_iconst (v := (2 : Int32)) X dL_law_360 zic_2 ?_
        refine zv_iadd X dL_law_361 ?_
        refine zb e (fun v43 gv43 e => ?_)
        refine zv_xald XX dL_law_362 gv43 ?_
        refine zb e (fun q44 gq44 e => ?_)
        refine zv_callV (stk := [.int v43, .int v42, .ref 67, .int q41.1]) (as := [.int v42, .int v43]) (st := [.int q41.1]) (k := 67) X zl_RL_35 zm_X10_most (k_X10_most (d := d - 1) (by omega) gq44) (by omega) zb_67 (by rw [zk_67]; rfl) rfl rfl (Nat.le_of_ble_eq_true rfl) (Nat.le_refl _) rfl dL_law_363 ?_
        show J 366 [(0, .retAddr b), (1, .ref 0), (2, .ref 67), (3, .int a3)] [.int q44.1, .int q41.1] 117 zRF q44.2
        refine zv_icmp_eq (tgt := 1462) X dL_law_366 (by decide) (fun c45 => ?_) (fun c45 => ?_)
        · replace e := zit e c45
          exact k_law_L1462 q hd X XX ih _ _ e
        · replace e := zif e c45
          refine zv_iconst (v := (0 : Int32)) X dL_law_369 zic_0 ?_
          exact zv_retZ X e rfl zbo_0 dL_law_370
      replace e := zif e c38
      by_cases c46 : v3 = (5 : Int32)
      · replace e := zit e c46
        refine zv_tabIn (off := 338) (tgt := 371) X dL_law_33 (by rw [c46]; decide) (by rw [c46]; decide) (by rw [c46]; decide) (by decide) ?_
        refine zv_aload_n X dL_law_371 rfl rfl ?_
        refine zv_xload_n X dL_law_372 rfl rfl ?_
        refine zv_iload_n X dL_law_373 rfl rfl ?_
        refine zv_iconst (v := (1 : Int32)) X dL_law_374 zic_1 ?_
        refine zv_iadd X dL_law_375 ?_
        refine zb e (fun v47 gv47 e => ?_)
        refine zv_xald XX dL_law_376 gv47 ?_
        refine zv_xload_n X dL_law_377 rfl rfl ?_
        refine zv_iload_n X dL_law_378 rfl rfl ?_
        refine zv_iconst (v := (2 : Int32)) X dL_law_379 zic_2 ?_
        refine zv_iadd X dL_law_380 ?_
        refine zb e (fun v48 gv48 e => ?_)
        refine zv_xald XX dL_law_381 gv48 ?_
        refine zv_xload_n X dL_law_382 rfl rfl ?_
        refine zv_iload_n X dL_law_383 rfl rfl ?_
        refine zv_iconst (v := (3 : Int32)) X dL_law_384 zic_3 ?_
        refine zv_iadd X dL_law_385 ?_
        refine zb e (fun v49 gv49 e => ?_)
        refine zv_xald XX dL_law_386 gv49 ?_
        refine zv_xload_n X dL_law_387 rfl rfl ?_
        refine zv_iload_n X dL_law_388 rfl rfl ?_
        refine zv_iconst (v := (4 : Int32)) X dL_law_389 zic_4 ?_
        refine zv_iadd X dL_law_390 ?_
        refine zb e (fun v50 gv50 e => ?_)
        refine zv_xald XX dL_law_391 gv50 ?_
        refine zv_xload_n X dL_law_392 rfl rfl ?_
        refine zv_iload_n X dL_law_393 rfl rfl ?_
        refine zv_iconst (v := (5 : Int32)) X dL_law_394 zic_5 ?_
        refine zv_iadd X dL_law_395 ?_
        refine zb e (fun v51 gv51 e => ?_)
        refine zv_xald XX dL_law_396 gv51 ?_
        refine zb e (fun q52 gq52 e => ?_)
        refine zv_callV (stk := [.int v51, .int v50, .int v49, .int v48, .int v47, .ref 0]) (as := [.int v47, .int v48, .int v49, .int v50, .int v51]) (st := []) (k := 0) X zl_RL_36 zm_X9_kitchen (k_X9_kitchen (d := d - 1) (by omega) gq52) (by omega) zb_0 (by rw [zk_0]; rfl) rfl rfl (Nat.le_of_ble_eq_true rfl) (Nat.le_refl _) rfl dL_law_397 ?_
        show J 400 [(0, .retAddr b), (1, .ref 0), (2, .ref 67), (3, .int a3)] [.int q52.1] 117 zRF q52.2
        refine zv_aload_n X dL_law_400 rfl rfl ?_
        refine zv_xload_n X dL_law_401 rfl rfl ?_
        refine zv_iload_n X dL_law_402 rfl rfl ?_
        refine zv_iconst (v := (1 : Int32)) X dL_law_403 zic_1 ?_
        refine zv_iadd X dL_law_404 ?_
        refine zb e (fun v53 gv53 e => ?_)
        refine zv_xald XX dL_law_405 gv53 ?_
        refine zv_xload_n X dL_law_406 rfl rfl ?_
        refine zv_iload_n X dL_law_407 rfl rfl ?_
        refine zv_iconst (v := (2 : Int32)) X dL_law_408 zic_2 ?_
        refine zv_iadd X dL_law_409 ?_
        refine zb e (fun v54 gv54 e => ?_)
        refine zv_xald XX dL_law_410 gv54 ?_
        refine zv_xload_n X dL_law_411 rfl rfl ?_
        refine zv_iload_n X dL_law_412 rfl rfl ?_
        refine zv_iconst (v := (3 : Int32)) X dL_law_413 zic_3 ?_
        refine zv_iadd X dL_law_414 ?_
        refine zb e (fun v55 gv55 e => ?_)
        refine zv_xald XX dL_law_415 gv55 ?_
        refine zv_xload_n X dL_law_416 rfl rfl ?_
        refine zv_iload_n X dL_law_417 rfl rfl ?_
        refine zv_iconst (v := (4 : Int32)) X dL_law_418 zic_4 ?_
        refine zv_iadd X dL_law_419 ?_
        refine zb e (fun v56 gv56 e => ?_)
        refine zv_xald XX dL_law_420 gv56 ?_
        refine zv_xload_n X dL_law_421 rfl rfl ?_
        refine zv_iload_n X dL_law_422 rfl rfl ?_
        refine zv_iconst (v := (5 : Int32)) X dL_law_423 zic_5 ?_
        refine zv_iadd X dL_law_424 ?_
        refine zb e (fun v57 gv57 e => ?_)
        refine zv_xald XX dL_law_425 gv57 ?_
        refine zb e (fun q58 gq58 e => ?_)
        refine zv_callV (stk := [.int v57, .int v56, .int v55, .int v54, .int v53, .ref 67, .int q52.1]) (as := [.int v53, .int v54, .int v55, .int v56, .int v57]) (st := [.int q52.1]) (k := 67) X zl_RL_40 zm_X10_kitchen (k_X10_kitchen (d := d - 1) (by omega) gq58) (by omega) zb_67 (by rw [zk_67]; rfl) rfl rfl (Nat.le_of_ble_eq_true rfl) (Nat.le_refl _) rfl dL_law_426 ?_
        show J 429 [(0, .retAddr b), (1, .ref 0), (2, .ref 67), (3, .int a3)] [.int q58.1, .int q52.1] 117 zRF q58.2
        refine zv_icmp_eq (tgt := 1462) X dL_law_429 (by decide) (fun c59 => ?_) (fun c59 => ?_)
        · replace e := zit e c59
          exact k_law_L1462 q hd X XX ih _ _ e
        · replace e := zif e c59
          refine zv_iconst (v := (0 : Int32)) X dL_law_432 zic_0 ?_
          exact zv_retZ X e rfl zbo_0 dL_law_433
      replace e := zif e c46
      by_cases c60 : v3 = (6 : Int32)
      · replace e := zit e c60
        refine zv_tabIn (off := 401) (tgt := 434) X dL_law_33 (by rw [c60]; decide) (by rw [c60]; decide) (by rw [c60]; decide) (by decide) ?_
        refine zv_aload_n X dL_law_434 rfl rfl ?_
        refine zv_xload_n X dL_law_435 rfl rfl ?_
        refine zv_iload_n X dL_law_436 rfl rfl ?_
        refine zv_iconst (v := (1 : Int32)) X dL_law_437 zic_1 ?_
        refine zv_iadd X dL_law_438 ?_
        refine zb e (fun v61 gv61 e => ?_)
        refine zv_xald XX dL_law_439 gv61 ?_
        refine zv_xload_n X dL_law_440 rfl rfl ?_
        refine zv_iload_n X dL_law_441 rfl rfl ?_
        refine zv_iconst (v := (2 : Int32)) X dL_law_442 zic_2 ?_
        refine zv_iadd X dL_law_443 ?_
        refine zb e (fun v62 gv62 e => ?_)
        refine zv_xald XX dL_law_444 gv62 ?_
        refine zv_if_eq (tgt := 452) X dL_law_445 (by decide) (fun c63 => ?_) (fun c63 => ?_)
        · replace e := zit e c63
          refine zv_iconst (v := (0 : Int32)) X dL_law_452 zic_0 ?_
          exact k_law_L453 q hd X XX ih _ _ _ _ e
        · replace e := zif e c63
          refine zv_iconst (v := (1 : Int32)) X dL_law_448 zic_1 ?_
          refine zv_goto (tgt := 453) X dL_law_449 (by decide) ?_
          exact k_law_L453 q hd X XX ih _ _ _ _ e
      replace e := zif e c60
      by_cases c64 : v3 = (7 : Int32)
      · replace e := zit e c64
        refine zv_tabIn (off := 450) (tgt := 483) X dL_law_33 (by rw [c64]; decide) (by rw [c64]; decide) (by rw [c64]; decide) (by decide) ?_
        refine zv_aload_n X dL_law_483 rfl rfl ?_
        refine zv_xload_n X dL_law_484 rfl rfl ?_
        refine zv_iload_n X dL_law_485 rfl rfl ?_
        refine zv_iconst (v := (1 : Int32)) X dL_law_486 zic_1 ?_
        refine zv_iadd X dL_law_487 ?_
        refine zb e (fun v65 gv65 e => ?_)
        refine zv_xald XX dL_law_488 gv65 ?_
        refine zv_xload_n X dL_law_489 rfl rfl ?_
        refine zv_iload_n X dL_law_490 rfl rfl ?_
        refine zv_iconst (v := (2 : Int32)) X dL_law_491 zic_2 ?_
        refine zv_iadd X dL_law_492 ?_
        refine zb e (fun v66 gv66 e => ?_)
        refine zv_xald XX dL_law_493 gv66 ?_
        refine zv_xload_n X dL_law_494 rfl rfl ?_
        refine zv_iload_n X dL_law_495 rfl rfl ?_
        refine zv_iconst (v := (3 : Int32)) X dL_law_496 zic_3 ?_
        refine zv_iadd X dL_law_497 ?_
        refine zb e (fun v67 gv67 e => ?_)
        refine zv_xald XX dL_law_498 gv67 ?_
        refine zv_if_eq (tgt := 506) X dL_law_499 (by decide) (fun c68 => ?_) (fun c68 => ?_)
        · replace e := zit e c68
          refine zv_iconst (v := (0 : Int32)) X dL_law_506 zic_0 ?_
          exact k_law_L507 q hd X XX ih _ _ _ _ _ e
        · replace e := zif e c68
          refine zv_iconst (v := (1 : Int32)) X dL_law_502 zic_1 ?_
          refine zv_goto (tgt := 507) X dL_law_503 (by decide) ?_
          exact k_law_L507 q hd X XX ih _ _ _ _ _ e
      replace e := zif e c64
      by_cases c69 : v3 = (8 : Int32)
      · replace e := zit e c69
        refine zv_tabIn (off := 509) (tgt := 542) X dL_law_33 (by rw [c69]; decide) (by rw [c69]; decide) (by rw [c69]; decide) (by decide) ?_
        refine zv_aload_n X dL_law_542 rfl rfl ?_
        refine zv_xload_n X dL_law_543 rfl rfl ?_
        refine zv_iload_n X dL_law_544 rfl rfl ?_
        refine zv_iconst (v := (1 : Int32)) X dL_law_545 zic_1 ?_
        refine zv_iadd X dL_law_546 ?_
        refine zb e (fun v70 gv70 e => ?_)
        refine zv_xald XX dL_law_547 gv70 ?_
        refine zv_xload_n X dL_law_548 rfl rfl ?_
        refine zv_iload_n X dL_law_549 rfl rfl ?_
        refine zv_iconst (v := (2 : Int32)) X dL_law_550 zic_2 ?_
        refine zv_iadd X dL_law_551 ?_
        refine zb e (fun v71 gv71 e => ?_)
        refine zv_xald XX dL_law_552 gv71 ?_
        refine zv_xload_n X dL_law_553 rfl rfl ?_
        refine zv_iload_n X dL_law_554 rfl rfl ?_
        refine zv_iconst (v := (3 : Int32)) X dL_law_555 zic_3 ?_
        refine zv_iadd X dL_law_556 ?_
        refine zb e (fun v72 gv72 e => ?_)
        refine zv_xald XX dL_law_557 gv72 ?_
        refine zb e (fun q73 gq73 e => ?_)
        refine zv_callV (stk := [.int v72, .int v71, .int v70, .ref 0]) (as := [.int v70, .int v71, .int v72]) (st := []) (k := 0) X zl_RL_51 zm_X9_look (k_X9_look (d := d - 1) (by omega) gq73) (by omega) zb_0 (by rw [zk_0]; rfl) rfl rfl (Nat.le_of_ble_eq_true rfl) (Nat.le_refl _) rfl dL_law_558 ?_
        show J 561 [(0, .retAddr b), (1, .ref 0), (2, .ref 67), (3, .int a3)] [.int q73.1] 117 zRF q73.2
        refine zv_aload_n X dL_law_561 rfl rfl ?_
        refine zv_xload_n X dL_law_562 rfl rfl ?_
        refine zv_iload_n X dL_law_563 rfl rfl ?_
        refine zv_iconst (v := (1 : Int32)) X dL_law_564 zic_1 ?_
        refine zv_iadd X dL_law_565 ?_
        refine zb e (fun v74 gv74 e => ?_)
        refine zv_xald XX dL_law_566 gv74 ?_
        refine zv_xload_n X dL_law_567 rfl rfl ?_
        refine zv_iload_n X dL_law_568 rfl rfl ?_
        refine zv_iconst (v := (2 : Int32)) X dL_law_569 zic_2 ?_
        refine zv_iadd X dL_law_570 ?_
        refine zb e (fun v75 gv75 e => ?_)
        refine zv_xald XX dL_law_571 gv75 ?_
        refine zv_xload_n X dL_law_572 rfl rfl ?_
        refine zv_iload_n X dL_law_573 rfl rfl ?_
        refine zv_iconst (v := (3 : Int32)) X dL_law_574 zic_3 ?_
        refine zv_iadd X dL_law_575 ?_
        refine zb e (fun v76 gv76 e => ?_)
        refine zv_xald XX dL_law_576 gv76 ?_
        refine zb e (fun q77 gq77 e => ?_)
        refine zv_callV (stk := [.int v76, .int v75, .int v74, .ref 67, .int q73.1]) (as := [.int v74, .int v75, .int v76]) (st := [.int q73.1]) (k := 67) X zl_RL_54 zm_X10_look (k_X10_look (d := d - 1) (by omega) gq77) (by omega) zb_67 (by rw [zk_67]; rfl) rfl rfl (Nat.le_of_ble_eq_true rfl) (Nat.le_refl _) rfl dL_law_577 ?_
        show J 580 [(0, .retAddr b), (1, .ref 0), (2, .ref 67), (3, .int a3)] [.int q77.1, .int q73.1] 117 zRF q77.2
        refine zv_icmp_eq (tgt := 1462) X dL_law_580 (by decide) (fun c78 => ?_) (fun c78 => ?_)
        · replace e := zit e c78
          exact k_law_L1462 q hd X XX ih _ _ e
        · replace e := zif e c78
          refine zv_iconst (v := (0 : Int32)) X dL_law_583 zic_0 ?_
          exact zv_retZ X e rfl zbo_0 dL_law_584
      replace e := zif e c69
      by_cases c79 : v3 = (9 : Int32)
      · replace e := zit e c79
        refine zv_tabIn (off := 552) (tgt := 585) X dL_law_33 (by rw [c79]; decide) (by rw [c79]; decide) (by rw [c79]; decide) (by decide) ?_
        refine zv_aload_n X dL_law_585 rfl rfl ?_
        refine zv_xload_n X dL_law_586 rfl rfl ?_
        refine zv_iload_n X dL_law_587 rfl rfl ?_
        refine zv_iconst (v := (1 : Int32)) X dL_law_588 zic_1 ?_
        refine zv_iadd X dL_law_589 ?_
        refine zb e (fun v80 gv80 e => ?_)
        refine zv_xald XX dL_law_590 gv80 ?_
        refine zv_xload_n X dL_law_591 rfl rfl ?_
        refine zv_iload_n X dL_law_592 rfl rfl ?_
        refine zv_iconst (v := (2 : Int32)) X dL_law_593 zic_2 ?_
        refine zv_iadd X dL_law_594 ?_
        refine zb e (fun v81 gv81 e => ?_)
        refine zv_xald XX dL_law_595 gv81 ?_
        refine zb e (fun q82 gq82 e => ?_)
        refine zv_callV (stk := [.int v81, .int v80, .ref 0]) (as := [.int v80, .int v81]) (st := []) (k := 0) X zl_RL_55 zm_X9_find (k_X9_find (d := d - 1) (by omega) gq82) (by omega) zb_0 (by rw [zk_0]; rfl) rfl rfl (Nat.le_of_ble_eq_true rfl) (Nat.le_refl _) rfl dL_law_596 ?_
        show J 599 [(0, .retAddr b), (1, .ref 0), (2, .ref 67), (3, .int a3)] [.int q82.1] 117 zRF q82.2
        refine zv_aload_n X dL_law_599 rfl rfl ?_
        refine zv_xload_n X dL_law_600 rfl rfl ?_
        refine zv_iload_n X dL_law_601 rfl rfl ?_
        refine zv_iconst (v := (1 : Int32)) X dL_law_602 zic_1 ?_
        refine zv_iadd X dL_law_603 ?_
        refine zb e (fun v83 gv83 e => ?_)
        refine zv_xald XX dL_law_604 gv83 ?_
        refine zv_xload_n X dL_law_605 rfl rfl ?_
        refine zv_iload_n X dL_law_606 rfl rfl ?_
        refine zv_iconst (v := (2 : Int32)) X dL_law_607 zic_2 ?_
        refine zv_iadd X dL_law_608 ?_
        refine zb e (fun v84 gv84 e => ?_)
        refine zv_xald XX dL_law_609 gv84 ?_
        refine zb e (fun q85 gq85 e => ?_)
        refine zv_callV (stk := [.int v84, .int v83, .ref 67, .int q82.1]) (as := [.int v83, .int v84]) (st := [.int q82.1]) (k := 67) X zl_RL_58 zm_X10_find (k_X10_find (d := d - 1) (by omega) gq85) (by omega) zb_67 (by rw [zk_67]; rfl) rfl rfl (Nat.le_of_ble_eq_true rfl) (Nat.le_refl _) rfl dL_law_610 ?_
        show J 613 [(0, .retAddr b), (1, .ref 0), (2, .ref 67), (3, .int a3)] [.int q85.1, .int q82.1] 117 zRF q85.2
        refine zv_icmp_eq (tgt := 1462) X dL_law_613 (by decide) (fun c86 => ?_) (fun c86 => ?_)
        · replace e := zit e c86
          exact k_law_L1462 q hd X XX ih _ _ e
        · replace e := zif e c86
          refine zv_iconst (v := (0 : Int32)) X dL_law_616 zic_0 ?_
          exact zv_retZ X e rfl zbo_0 dL_law_617
      replace e := zif e c79
      by_cases c87 : v3 = (10 : Int32)
      · replace e := zit e c87
        refine zv_tabIn (off := 585) (tgt := 618) X dL_law_33 (by rw [c87]; decide) (by rw [c87]; decide) (by rw [c87]; decide) (by decide) ?_
        refine zv_aload_n X dL_law_618 rfl rfl ?_
        refine zv_xload_n X dL_law_619 rfl rfl ?_
        refine zv_iload_n X dL_law_620 rfl rfl ?_
        refine zv_iconst (v := (1 : Int32)) X dL_law_621 zic_1 ?_
        refine zv_iadd X dL_law_622 ?_
        refine zb e (fun v88 gv88 e => ?_)
        refine zv_xald XX dL_law_623 gv88 ?_
        refine zb e (fun q89 gq89 e => ?_)
        refine zv_callV (stk := [.int v88, .ref 0]) (as := [.int v88]) (st := []) (k := 0) X zl_RL_59 zm_X9_back (k_X9_back (d := d - 1) (by omega) gq89) (by omega) zb_0 (by rw [zk_0]; rfl) rfl rfl (Nat.le_of_ble_eq_true rfl) (Nat.le_refl _) rfl dL_law_624 ?_
        show J 627 [(0, .retAddr b), (1, .ref 0), (2, .ref 67), (3, .int a3)] [.int q89.1] 117 zRF q89.2
        refine zv_aload_n X dL_law_627 rfl rfl ?_
        refine zv_xload_n X dL_law_628 rfl rfl ?_
        refine zv_iload_n X dL_law_629 rfl rfl ?_
        refine zv_iconst (v := (1 : Int32)) X dL_law_630 zic_1 ?_
        refine zv_iadd X dL_law_631 ?_
        refine zb e (fun v90 gv90 e => ?_)
        refine zv_xald XX dL_law_632 gv90 ?_
        refine zb e (fun q91 gq91 e => ?_)
        refine zv_callV (stk := [.int v90, .ref 67, .int q89.1]) (as := [.int v90]) (st := [.int q89.1]) (k := 67) X zl_RL_62 zm_X10_back (k_X10_back (d := d - 1) (by omega) gq91) (by omega) zb_67 (by rw [zk_67]; rfl) rfl rfl (Nat.le_of_ble_eq_true rfl) (Nat.le_refl _) rfl dL_law_633 ?_
        show J 636 [(0, .retAddr b), (1, .ref 0), (2, .ref 67), (3, .int a3)] [.int q91.1, .int q89.1] 117 zRF q91.2
        refine zv_icmp_eq (tgt := 1462) X dL_law_636 (by decide) (fun c92 => ?_) (fun c92 => ?_)
        · replace e := zit e c92
          exact k_law_L1462 q hd X XX ih _ _ e
        · replace e := zif e c92
          refine zv_iconst (v := (0 : Int32)) X dL_law_639 zic_0 ?_
          exact zv_retZ X e rfl zbo_0 dL_law_640
      replace e := zif e c87
      by_cases c93 : v3 = (11 : Int32)
      · replace e := zit e c93
        refine zv_tabIn (off := 608) (tgt := 641) X dL_law_33 (by rw [c93]; decide) (by rw [c93]; decide) (by rw [c93]; decide) (by decide) ?_
        refine zv_aload_n X dL_law_641 rfl rfl ?_
        refine zv_xload_n X dL_law_642 rfl rfl ?_
        refine zv_iload_n X dL_law_643 rfl rfl ?_
        refine zv_iconst (v := (1 : Int32)) X dL_law_644 zic_1 ?_
        refine zv_iadd X dL_law_645 ?_
        refine zb e (fun v94 gv94 e => ?_)
        refine zv_xald XX dL_law_646 gv94 ?_
        refine zv_xload_n X dL_law_647 rfl rfl ?_
        refine zv_iload_n X dL_law_648 rfl rfl ?_
        refine zv_iconst (v := (2 : Int32)) X dL_law_649 zic_2 ?_
        refine zv_iadd X dL_law_650 ?_
        refine zb e (fun v95 gv95 e => ?_)
        refine zv_xald XX dL_law_651 gv95 ?_
        refine zb e (fun q96 gq96 e => ?_)
        refine zv_callV (stk := [.int v95, .int v94, .ref 0]) (as := [.int v94, .int v95]) (st := []) (k := 0) X zl_RL_63 zm_X9_score (k_X9_score (d := d - 1) (by omega) gq96) (by omega) zb_0 (by rw [zk_0]; rfl) rfl rfl (Nat.le_of_ble_eq_true rfl) (Nat.le_refl _) rfl dL_law_652 ?_
        show J 655 [(0, .retAddr b), (1, .ref 0), (2, .ref 67), (3, .int a3)] [.int q96.1] 117 zRF q96.2
        refine zv_aload_n X dL_law_655 rfl rfl ?_
        refine zv_xload_n X dL_law_656 rfl rfl ?_
        refine zv_iload_n X dL_law_657 rfl rfl ?_
        refine zv_iconst (v := (1 : Int32)) X dL_law_658 zic_1 ?_
        refine zv_iadd X dL_law_659 ?_
        refine zb e (fun v97 gv97 e => ?_)
        refine zv_xald XX dL_law_660 gv97 ?_
        refine zv_xload_n X dL_law_661 rfl rfl ?_
        refine zv_iload_n X dL_law_662 rfl rfl ?_
        refine zv_iconst (v := (2 : Int32)) X dL_law_663 zic_2 ?_
        refine zv_iadd X dL_law_664 ?_
        refine zb e (fun v98 gv98 e => ?_)
        refine zv_xald XX dL_law_665 gv98 ?_
        refine zb e (fun q99 gq99 e => ?_)
        refine zv_callV (stk := [.int v98, .int v97, .ref 67, .int q96.1]) (as := [.int v97, .int v98]) (st := [.int q96.1]) (k := 67) X zl_RL_66 zm_X10_score (k_X10_score (d := d - 1) (by omega) gq99) (by omega) zb_67 (by rw [zk_67]; rfl) rfl rfl (Nat.le_of_ble_eq_true rfl) (Nat.le_refl _) rfl dL_law_666 ?_
        show J 669 [(0, .retAddr b), (1, .ref 0), (2, .ref 67), (3, .int a3)] [.int q99.1, .int q96.1] 117 zRF q99.2
        refine zv_icmp_eq (tgt := 1462) X dL_law_669 (by decide) (fun c100 => ?_) (fun c100 => ?_)
        · replace e := zit e c100
          exact k_law_L1462 q hd X XX ih _ _ e
        · replace e := zif e c100
          refine zv_iconst (v := (0 : Int32)) X dL_law_672 zic_0 ?_
          exact zv_retZ X e rfl zbo_0 dL_law_673
      replace e := zif e c93
      by_cases c101 : v3 = (12 : Int32)
      · replace e := zit e c101
        refine zv_tabIn (off := 641) (tgt := 674) X dL_law_33 (by rw [c101]; decide) (by rw [c101]; decide) (by rw [c101]; decide) (by decide) ?_
        refine zv_aload_n X dL_law_674 rfl rfl ?_
        refine zv_xload_n X dL_law_675 rfl rfl ?_
        refine zv_iload_n X dL_law_676 rfl rfl ?_
        refine zv_iconst (v := (1 : Int32)) X dL_law_677 zic_1 ?_
        refine zv_iadd X dL_law_678 ?_
        refine zb e (fun v102 gv102 e => ?_)
        refine zv_xald XX dL_law_679 gv102 ?_
        refine zv_xload_n X dL_law_680 rfl rfl ?_
        refine zv_iload_n X dL_law_681 rfl rfl ?_
        refine zv_iconst (v := (2 : Int32)) X dL_law_682 zic_2 ?_
        refine zv_iadd X dL_law_683 ?_
        refine zb e (fun v103 gv103 e => ?_)
        refine zv_xald XX dL_law_684 gv103 ?_
        refine zv_xload_n X dL_law_685 rfl rfl ?_
        refine zv_iload_n X dL_law_686 rfl rfl ?_
        refine zv_iconst (v := (3 : Int32)) X dL_law_687 zic_3 ?_
        refine zv_iadd X dL_law_688 ?_
        refine zb e (fun v104 gv104 e => ?_)
        refine zv_xald XX dL_law_689 gv104 ?_
        refine zv_xload_n X dL_law_690 rfl rfl ?_
        refine zv_iload_n X dL_law_691 rfl rfl ?_
        refine zv_iconst (v := (4 : Int32)) X dL_law_692 zic_4 ?_
        refine zv_iadd X dL_law_693 ?_
        refine zb e (fun v105 gv105 e => ?_)
        refine zv_xald XX dL_law_694 gv105 ?_
        refine zv_xload_n X dL_law_695 rfl rfl ?_
        refine zv_iload_n X dL_law_696 rfl rfl ?_
        refine zv_iconst (v := (5 : Int32)) X dL_law_697 zic_5 ?_
        refine zv_iadd X dL_law_698 ?_
        refine zb e (fun v106 gv106 e => ?_)
        refine zv_xald XX dL_law_699 gv106 ?_
        refine zb e (fun q107 gq107 e => ?_)
        refine zv_callV (stk := [.int v106, .int v105, .int v104, .int v103, .int v102, .ref 0]) (as := [.int v102, .int v103, .int v104, .int v105, .int v106]) (st := []) (k := 0) X zl_RL_67 zm_X9_table (k_X9_table (d := d - 1) (by omega) gq107) (by omega) zb_0 (by rw [zk_0]; rfl) rfl rfl (Nat.le_of_ble_eq_true rfl) (Nat.le_refl _) rfl dL_law_700 ?_
        show J 703 [(0, .retAddr b), (1, .ref 0), (2, .ref 67), (3, .int a3)] [.int q107.1] 117 zRF q107.2
        refine zv_aload_n X dL_law_703 rfl rfl ?_
        refine zv_xload_n X dL_law_704 rfl rfl ?_
        refine zv_iload_n X dL_law_705 rfl rfl ?_
        refine zv_iconst (v := (1 : Int32)) X dL_law_706 zic_1 ?_
        refine zv_iadd X dL_law_707 ?_
        refine zb e (fun v108 gv108 e => ?_)
        refine zv_xald XX dL_law_708 gv108 ?_
        refine zv_xload_n X dL_law_709 rfl rfl ?_
        refine zv_iload_n X dL_law_710 rfl rfl ?_
        refine zv_iconst (v := (2 : Int32)) X dL_law_711 zic_2 ?_
        refine zv_iadd X dL_law_712 ?_
        refine zb e (fun v109 gv109 e => ?_)
        refine zv_xald XX dL_law_713 gv109 ?_
        refine zv_xload_n X dL_law_714 rfl rfl ?_
        refine zv_iload_n X dL_law_715 rfl rfl ?_
        refine zv_iconst (v := (3 : Int32)) X dL_law_716 zic_3 ?_
        refine zv_iadd X dL_law_717 ?_
        refine zb e (fun v110 gv110 e => ?_)
        refine zv_xald XX dL_law_718 gv110 ?_
        refine zv_xload_n X dL_law_719 rfl rfl ?_
        refine zv_iload_n X dL_law_720 rfl rfl ?_
        refine zv_iconst (v := (4 : Int32)) X dL_law_721 zic_4 ?_
        refine zv_iadd X dL_law_722 ?_
        refine zb e (fun v111 gv111 e => ?_)
        refine zv_xald XX dL_law_723 gv111 ?_
        refine zv_xload_n X dL_law_724 rfl rfl ?_
        refine zv_iload_n X dL_law_725 rfl rfl ?_
        refine zv_iconst (v := (5 : Int32)) X dL_law_726 zic_5 ?_
        refine zv_iadd X dL_law_727 ?_
        refine zb e (fun v112 gv112 e => ?_)
        refine zv_xald XX dL_law_728 gv112 ?_
        refine zb e (fun q113 gq113 e => ?_)
        refine zv_callV (stk := [.int v112, .int v111, .int v110, .int v109, .int v108, .ref 67, .int q107.1]) (as := [.int v108, .int v109, .int v110, .int v111, .int v112]) (st := [.int q107.1]) (k := 67) X zl_RL_70 zm_X10_table (k_X10_table (d := d - 1) (by omega) gq113) (by omega) zb_67 (by rw [zk_67]; rfl) rfl rfl (Nat.le_of_ble_eq_true rfl) (Nat.le_refl _) rfl dL_law_729 ?_
        show J 732 [(0, .retAddr b), (1, .ref 0), (2, .ref 67), (3, .int a3)] [.int q113.1, .int q107.1] 117 zRF q113.2
        refine zv_icmp_eq (tgt := 1462) X dL_law_732 (by decide) (fun c114 => ?_) (fun c114 => ?_)
        · replace e := zit e c114
          exact k_law_L1462 q hd X XX ih _ _ e
        · replace e := zif e c114
          refine zv_iconst (v := (0 : Int32)) X dL_law_735 zic_0 ?_
          exact zv_retZ X e rfl zbo_0 dL_law_736
      replace e := zif e c101
      by_cases c115 : v3 = (13 : Int32)
      · replace e := zit e c115
        refine zv_tabIn (off := 704) (tgt := 737) X dL_law_33 (by rw [c115]; decide) (by rw [c115]; decide) (by rw [c115]; decide) (by decide) ?_
        refine zv_aload_n X dL_law_737 rfl rfl ?_
        refine zv_xload_n X dL_law_738 rfl rfl ?_
        refine zv_iload_n X dL_law_739 rfl rfl ?_
        refine zv_iconst (v := (1 : Int32)) X dL_law_740 zic_1 ?_
        refine zv_iadd X dL_law_741 ?_
        refine zb e (fun v116 gv116 e => ?_)
        refine zv_xald XX dL_law_742 gv116 ?_
        refine zv_xload_n X dL_law_743 rfl rfl ?_
        refine zv_iload_n X dL_law_744 rfl rfl ?_
        refine zv_iconst (v := (2 : Int32)) X dL_law_745 zic_2 ?_
        refine zv_iadd X dL_law_746 ?_
        refine zb e (fun v117 gv117 e => ?_)
        refine zv_xald XX dL_law_747 gv117 ?_
        refine zv_xload_n X dL_law_748 rfl rfl ?_
        refine zv_iload_n X dL_law_749 rfl rfl ?_
        refine zv_iconst (v := (3 : Int32)) X dL_law_750 zic_3 ?_
        refine zv_iadd X dL_law_751 ?_
        refine zb e (fun v118 gv118 e => ?_)
        refine zv_xald XX dL_law_752 gv118 ?_
        refine zb e (fun q119 gq119 e => ?_)
        refine zv_callV (stk := [.int v118, .int v117, .int v116, .ref 0]) (as := [.int v116, .int v117, .int v118]) (st := []) (k := 0) X zl_RL_71 zm_X9_star (k_X9_star (d := d - 1) (by omega) gq119) (by omega) zb_0 (by rw [zk_0]; rfl) rfl rfl (Nat.le_of_ble_eq_true rfl) (Nat.le_refl _) rfl dL_law_753 ?_
        show J 756 [(0, .retAddr b), (1, .ref 0), (2, .ref 67), (3, .int a3)] [.int q119.1] 117 zRF q119.2
        refine zv_aload_n X dL_law_756 rfl rfl ?_
        refine zv_xload_n X dL_law_757 rfl rfl ?_
        refine zv_iload_n X dL_law_758 rfl rfl ?_
        refine zv_iconst (v := (1 : Int32)) X dL_law_759 zic_1 ?_
        refine zv_iadd X dL_law_760 ?_
        refine zb e (fun v120 gv120 e => ?_)
        refine zv_xald XX dL_law_761 gv120 ?_
        refine zv_xload_n X dL_law_762 rfl rfl ?_
        refine zv_iload_n X dL_law_763 rfl rfl ?_
        refine zv_iconst (v := (2 : Int32)) X dL_law_764 zic_2 ?_
        refine zv_iadd X dL_law_765 ?_
        refine zb e (fun v121 gv121 e => ?_)
        refine zv_xald XX dL_law_766 gv121 ?_
        refine zv_xload_n X dL_law_767 rfl rfl ?_
        refine zv_iload_n X dL_law_768 rfl rfl ?_
        refine zv_iconst (v := (3 : Int32)) X dL_law_769 zic_3 ?_
        refine zv_iadd X dL_law_770 ?_
        refine zb e (fun v122 gv122 e => ?_)
        refine zv_xald XX dL_law_771 gv122 ?_
        refine zb e (fun q123 gq123 e => ?_)
        refine zv_callV (stk := [.int v122, .int v121, .int v120, .ref 67, .int q119.1]) (as := [.int v120, .int v121, .int v122]) (st := [.int q119.1]) (k := 67) X zl_RL_74 zm_X10_star (k_X10_star (d := d - 1) (by omega) gq123) (by omega) zb_67 (by rw [zk_67]; rfl) rfl rfl (Nat.le_of_ble_eq_true rfl) (Nat.le_refl _) rfl dL_law_772 ?_
        show J 775 [(0, .retAddr b), (1, .ref 0), (2, .ref 67), (3, .int a3)] [.int q123.1, .int q119.1] 117 zRF q123.2
        refine zv_icmp_eq (tgt := 1462) X dL_law_775 (by decide) (fun c124 => ?_) (fun c124 => ?_)
        · replace e := zit e c124
          exact k_law_L1462 q hd X XX ih _ _ e
        · replace e := zif e c124
          refine zv_iconst (v := (0 : Int32)) X dL_law_778 zic_0 ?_
          exact zv_retZ X e rfl zbo_0 dL_law_779
      replace e := zif e c115
      by_cases c125 : v3 = (14 : Int32)
      · replace e := zit e c125
        refine zv_tabIn (off := 747) (tgt := 780) X dL_law_33 (by rw [c125]; decide) (by rw [c125]; decide) (by rw [c125]; decide) (by decide) ?_
        refine zv_aload_n X dL_law_780 rfl rfl ?_
        refine zv_xload_n X dL_law_781 rfl rfl ?_
        refine zv_iload_n X dL_law_782 rfl rfl ?_
        refine zv_iconst (v := (1 : Int32)) X dL_law_783 zic_1 ?_
        refine zv_iadd X dL_law_784 ?_
        refine zb e (fun v126 gv126 e => ?_)
        refine zv_xald XX dL_law_785 gv126 ?_
        refine zv_xload_n X dL_law_786 rfl rfl ?_
        refine zv_iload_n X dL_law_787 rfl rfl ?_
        refine zv_iconst (v := (2 : Int32)) X dL_law_788 zic_2 ?_
        refine zv_iadd X dL_law_789 ?_
        refine zb e (fun v127 gv127 e => ?_)
        refine zv_xald XX dL_law_790 gv127 ?_
        refine zb e (fun q128 gq128 e => ?_)
        refine zv_callV (stk := [.int v127, .int v126, .ref 0]) (as := [.int v126, .int v127]) (st := []) (k := 0) X zl_RL_75 zm_X9_show (k_X9_show (d := d - 1) (by omega) gq128) (by omega) zb_0 (by rw [zk_0]; rfl) rfl rfl (Nat.le_of_ble_eq_true rfl) (Nat.le_refl _) rfl dL_law_791 ?_
        show J 794 [(0, .retAddr b), (1, .ref 0), (2, .ref 67), (3, .int a3)] [.int q128.1] 117 zRF q128.2
        refine zv_aload_n X dL_law_794 rfl rfl ?_
        refine zv_xload_n X dL_law_795 rfl rfl ?_
        refine zv_iload_n X dL_law_796 rfl rfl ?_
        refine zv_iconst (v := (1 : Int32)) X dL_law_797 zic_1 ?_
        refine zv_iadd X dL_law_798 ?_
        refine zb e (fun v129 gv129 e => ?_)
        refine zv_xald XX dL_law_799 gv129 ?_
        refine zv_xload_n X dL_law_800 rfl rfl ?_
        refine zv_iload_n X dL_law_801 rfl rfl ?_
        refine zv_iconst (v := (2 : Int32)) X dL_law_802 zic_2 ?_
        refine zv_iadd X dL_law_803 ?_
        refine zb e (fun v130 gv130 e => ?_)
        refine zv_xald XX dL_law_804 gv130 ?_
        refine zb e (fun q131 gq131 e => ?_)
        refine zv_callV (stk := [.int v130, .int v129, .ref 67, .int q128.1]) (as := [.int v129, .int v130]) (st := [.int q128.1]) (k := 67) X zl_RL_78 zm_X10_show (k_X10_show (d := d - 1) (by omega) gq131) (by omega) zb_67 (by rw [zk_67]; rfl) rfl rfl (Nat.le_of_ble_eq_true rfl) (Nat.le_refl _) rfl dL_law_805 ?_
        show J 808 [(0, .retAddr b), (1, .ref 0), (2, .ref 67), (3, .int a3)] [.int q131.1, .int q128.1] 117 zRF q131.2
        refine zv_icmp_eq (tgt := 1462) X dL_law_808 (by decide) (fun c132 => ?_) (fun c132 => ?_)
        · replace e := zit e c132
          exact k_law_L1462 q hd X XX ih _ _ e
        · replace e := zif e c132
          refine zv_iconst (v := (0 : Int32)) X dL_law_811 zic_0 ?_
          exact zv_retZ X e rfl zbo_0 dL_law_812
      replace e := zif e c125
      by_cases c133 : v3 = (15 : Int32)
      · replace e := zit e c133
        refine zv_tabIn (off := 780) (tgt := 813) X dL_law_33 (by rw [c133]; decide) (by rw [c133]; decide) (by rw [c133]; decide) (by decide) ?_
        refine zv_aload_n X dL_law_813 rfl rfl ?_
        refine zb e (fun q134 gq134 e => ?_)
        refine zv_callV (stk := [.ref 0]) (as := []) (st := []) (k := 0) X zl_RL_79 zm_X9_falses (k_X9_falses (d := d - 1) (by omega) gq134) (by omega) zb_0 (by rw [zk_0]; rfl) rfl rfl (Nat.le_of_ble_eq_true rfl) (Nat.le_refl _) rfl dL_law_814 ?_
        show J 817 [(0, .retAddr b), (1, .ref 0), (2, .ref 67), (3, .int a3)] [.int q134.1] 117 zRF q134.2
        refine zv_aload_n X dL_law_817 rfl rfl ?_
        refine zb e (fun q135 gq135 e => ?_)
        refine zv_callV (stk := [.ref 67, .int q134.1]) (as := []) (st := [.int q134.1]) (k := 67) X zl_RL_83 zm_X10_falses (k_X10_falses (d := d - 1) (by omega) gq135) (by omega) zb_67 (by rw [zk_67]; rfl) rfl rfl (Nat.le_of_ble_eq_true rfl) (Nat.le_refl _) rfl dL_law_818 ?_
        show J 821 [(0, .retAddr b), (1, .ref 0), (2, .ref 67), (3, .int a3)] [.int q135.1, .int q134.1] 117 zRF q135.2
        refine zv_icmp_eq (tgt := 1462) X dL_law_821 (by decide) (fun c136 => ?_) (fun c136 => ?_)
        · replace e := zit e c136
          exact k_law_L1462 q hd X XX ih _ _ e
        · replace e := zif e c136
          refine zv_iconst (v := (0 : Int32)) X dL_law_824 zic_0 ?_
          exact zv_retZ X e rfl zbo_0 dL_law_825
      replace e := zif e c133
      by_cases c137 : v3 = (16 : Int32)
      · replace e := zit e c137
        refine zv_tabIn (off := 793) (tgt := 826) X dL_law_33 (by rw [c137]; decide) (by rw [c137]; decide) (by rw [c137]; decide) (by decide) ?_
        refine zv_aload_n X dL_law_826 rfl rfl ?_
        refine zv_xload_n X dL_law_827 rfl rfl ?_
        refine zv_iload_n X dL_law_828 rfl rfl ?_
        refine zv_iconst (v := (1 : Int32)) X dL_law_829 zic_1 ?_
        refine zv_iadd X dL_law_830 ?_
        refine zb e (fun v138 gv138 e => ?_)
        refine zv_xald XX dL_law_831 gv138 ?_
        refine zv_xload_n X dL_law_832 rfl rfl ?_
        refine zv_iload_n X dL_law_833 rfl rfl ?_
        refine zv_iconst (v := (2 : Int32)) X dL_law_834 zic_2 ?_
        refine zv_iadd X dL_law_835 ?_
        refine zb e (fun v139 gv139 e => ?_)
        refine zv_xald XX dL_law_836 gv139 ?_
        refine zb e (fun q140 gq140 e => ?_)
        refine zv_callV (stk := [.int v139, .int v138, .ref 0]) (as := [.int v138, .int v139]) (st := []) (k := 0) X zl_RL_84 zm_X9_base (k_X9_base (d := d - 1) (by omega) gq140) (by omega) zb_0 (by rw [zk_0]; rfl) rfl rfl (Nat.le_of_ble_eq_true rfl) (Nat.le_refl _) rfl dL_law_837 ?_
        show J 840 [(0, .retAddr b), (1, .ref 0), (2, .ref 67), (3, .int a3)] [.int q140.1] 117 zRF q140.2
        refine zv_aload_n X dL_law_840 rfl rfl ?_
        refine zv_xload_n X dL_law_841 rfl rfl ?_
        refine zv_iload_n X dL_law_842 rfl rfl ?_
        refine zv_iconst (v := (1 : Int32)) X dL_law_843 zic_1 ?_
        refine zv_iadd X dL_law_844 ?_
        refine zb e (fun v141 gv141 e => ?_)
        refine zv_xald XX dL_law_845 gv141 ?_
        refine zv_xload_n X dL_law_846 rfl rfl ?_
        refine zv_iload_n X dL_law_847 rfl rfl ?_
        refine zv_iconst (v := (2 : Int32)) X dL_law_848 zic_2 ?_
        refine zv_iadd X dL_law_849 ?_
        refine zb e (fun v142 gv142 e => ?_)
        refine zv_xald XX dL_law_850 gv142 ?_
        refine zb e (fun q143 gq143 e => ?_)
        refine zv_callV (stk := [.int v142, .int v141, .ref 67, .int q140.1]) (as := [.int v141, .int v142]) (st := [.int q140.1]) (k := 67) X zl_RL_87 zm_X10_base (k_X10_base (d := d - 1) (by omega) gq143) (by omega) zb_67 (by rw [zk_67]; rfl) rfl rfl (Nat.le_of_ble_eq_true rfl) (Nat.le_refl _) rfl dL_law_851 ?_
        show J 854 [(0, .retAddr b), (1, .ref 0), (2, .ref 67), (3, .int a3)] [.int q143.1, .int q140.1] 117 zRF q143.2
        refine zv_icmp_eq (tgt := 1462) X dL_law_854 (by decide) (fun c144 => ?_) (fun c144 => ?_)
        · replace e := zit e c144
          exact k_law_L1462 q hd X XX ih _ _ e
        · replace e := zif e c144
          refine zv_iconst (v := (0 : Int32)) X dL_law_857 zic_0 ?_
          exact zv_retZ X e rfl zbo_0 dL_law_858
      replace e := zif e c137
      by_cases c145 : v3 = (17 : Int32)
      · replace e := zit e c145
        refine zv_tabIn (off := 826) (tgt := 859) X dL_law_33 (by rw [c145]; decide) (by rw [c145]; decide) (by rw [c145]; decide) (by decide) ?_
        refine zv_aload_n X dL_law_859 rfl rfl ?_
        refine zv_xload_n X dL_law_860 rfl rfl ?_
        refine zv_iload_n X dL_law_861 rfl rfl ?_
        refine zv_iconst (v := (1 : Int32)) X dL_law_862 zic_1 ?_
        refine zv_iadd X dL_law_863 ?_
        refine zb e (fun v146 gv146 e => ?_)
        refine zv_xald XX dL_law_864 gv146 ?_
        refine zv_xload_n X dL_law_865 rfl rfl ?_
        refine zv_iload_n X dL_law_866 rfl rfl ?_
        refine zv_iconst (v := (2 : Int32)) X dL_law_867 zic_2 ?_
        refine zv_iadd X dL_law_868 ?_
        refine zb e (fun v147 gv147 e => ?_)
        refine zv_xald XX dL_law_869 gv147 ?_
        refine zb e (fun q148 gq148 e => ?_)
        refine zv_callV (stk := [.int v147, .int v146, .ref 0]) (as := [.int v146, .int v147]) (st := []) (k := 0) X zl_RL_88 zm_X9_risk (k_X9_risk (d := d - 1) (by omega) gq148) (by omega) zb_0 (by rw [zk_0]; rfl) rfl rfl (Nat.le_of_ble_eq_true rfl) (Nat.le_refl _) rfl dL_law_870 ?_
        show J 873 [(0, .retAddr b), (1, .ref 0), (2, .ref 67), (3, .int a3)] [.int q148.1] 117 zRF q148.2
        refine zv_aload_n X dL_law_873 rfl rfl ?_
        refine zv_xload_n X dL_law_874 rfl rfl ?_
        refine zv_iload_n X dL_law_875 rfl rfl ?_
        refine zv_iconst (v := (1 : Int32)) X dL_law_876 zic_1 ?_
        refine zv_iadd X dL_law_877 ?_
        refine zb e (fun v149 gv149 e => ?_)
        refine zv_xald XX dL_law_878 gv149 ?_
        refine zv_xload_n X dL_law_879 rfl rfl ?_
        refine zv_iload_n X dL_law_880 rfl rfl ?_
        refine zv_iconst (v := (2 : Int32)) X dL_law_881 zic_2 ?_
        refine zv_iadd X dL_law_882 ?_
        refine zb e (fun v150 gv150 e => ?_)
        refine zv_xald XX dL_law_883 gv150 ?_
        refine zb e (fun q151 gq151 e => ?_)
        refine zv_callV (stk := [.int v150, .int v149, .ref 67, .int q148.1]) (as := [.int v149, .int v150]) (st := [.int q148.1]) (k := 67) X zl_RL_91 zm_X10_risk (k_X10_risk (d := d - 1) (by omega) gq151) (by omega) zb_67 (by rw [zk_67]; rfl) rfl rfl (Nat.le_of_ble_eq_true rfl) (Nat.le_refl _) rfl dL_law_884 ?_
        show J 887 [(0, .retAddr b), (1, .ref 0), (2, .ref 67), (3, .int a3)] [.int q151.1, .int q148.1] 117 zRF q151.2
        refine zv_icmp_eq (tgt := 1462) X dL_law_887 (by decide) (fun c152 => ?_) (fun c152 => ?_)
        · replace e := zit e c152
          exact k_law_L1462 q hd X XX ih _ _ e
        · replace e := zif e c152
          refine zv_iconst (v := (0 : Int32)) X dL_law_890 zic_0 ?_
          exact zv_retZ X e rfl zbo_0 dL_law_891
      replace e := zif e c145
      by_cases c153 : v3 = (18 : Int32)
      · replace e := zit e c153
        refine zv_tabIn (off := 859) (tgt := 892) X dL_law_33 (by rw [c153]; decide) (by rw [c153]; decide) (by rw [c153]; decide) (by decide) ?_
        refine zv_aload_n X dL_law_892 rfl rfl ?_
        refine zv_xload_n X dL_law_893 rfl rfl ?_
        refine zv_iload_n X dL_law_894 rfl rfl ?_
        refine zv_iconst (v := (1 : Int32)) X dL_law_895 zic_1 ?_
        refine zv_iadd X dL_law_896 ?_
        refine zb e (fun v154 gv154 e => ?_)
        refine zv_xald XX dL_law_897 gv154 ?_
        refine zv_xload_n X dL_law_898 rfl rfl ?_
        refine zv_iload_n X dL_law_899 rfl rfl ?_
        refine zv_iconst (v := (2 : Int32)) X dL_law_900 zic_2 ?_
        refine zv_iadd X dL_law_901 ?_
        refine zb e (fun v155 gv155 e => ?_)
        refine zv_xald XX dL_law_902 gv155 ?_
        refine zb e (fun q156 gq156 e => ?_)
        refine zv_callV (stk := [.int v155, .int v154, .ref 0]) (as := [.int v154, .int v155]) (st := []) (k := 0) X zl_RL_92 zm_X9_delay (k_X9_delay (d := d - 1) (by omega) gq156) (by omega) zb_0 (by rw [zk_0]; rfl) rfl rfl (Nat.le_of_ble_eq_true rfl) (Nat.le_refl _) rfl dL_law_903 ?_
        show J 906 [(0, .retAddr b), (1, .ref 0), (2, .ref 67), (3, .int a3)] [.int q156.1] 117 zRF q156.2
        refine zv_aload_n X dL_law_906 rfl rfl ?_
        refine zv_xload_n X dL_law_907 rfl rfl ?_
        refine zv_iload_n X dL_law_908 rfl rfl ?_
        refine zv_iconst (v := (1 : Int32)) X dL_law_909 zic_1 ?_
        refine zv_iadd X dL_law_910 ?_
        refine zb e (fun v157 gv157 e => ?_)
        refine zv_xald XX dL_law_911 gv157 ?_
        refine zv_xload_n X dL_law_912 rfl rfl ?_
        refine zv_iload_n X dL_law_913 rfl rfl ?_
        refine zv_iconst (v := (2 : Int32)) X dL_law_914 zic_2 ?_
        refine zv_iadd X dL_law_915 ?_
        refine zb e (fun v158 gv158 e => ?_)
        refine zv_xald XX dL_law_916 gv158 ?_
        refine zb e (fun q159 gq159 e => ?_)
        refine zv_callV (stk := [.int v158, .int v157, .ref 67, .int q156.1]) (as := [.int v157, .int v158]) (st := [.int q156.1]) (k := 67) X zl_RL_95 zm_X10_delay (k_X10_delay (d := d - 1) (by omega) gq159) (by omega) zb_67 (by rw [zk_67]; rfl) rfl rfl (Nat.le_of_ble_eq_true rfl) (Nat.le_refl _) rfl dL_law_917 ?_
        show J 920 [(0, .retAddr b), (1, .ref 0), (2, .ref 67), (3, .int a3)] [.int q159.1, .int q156.1] 117 zRF q159.2
        refine zv_icmp_eq (tgt := 1462) X dL_law_920 (by decide) (fun c160 => ?_) (fun c160 => ?_)
        · replace e := zit e c160
          exact k_law_L1462 q hd X XX ih _ _ e
        · replace e := zif e c160
          refine zv_iconst (v := (0 : Int32)) X dL_law_923 zic_0 ?_
          exact zv_retZ X e rfl zbo_0 dL_law_924
      replace e := zif e c153
      by_cases c161 : v3 = (19 : Int32)
      · replace e := zit e c161
        refine zv_tabIn (off := 892) (tgt := 925) X dL_law_33 (by rw [c161]; decide) (by rw [c161]; decide) (by rw [c161]; decide) (by decide) ?_
        refine zv_aload_n X dL_law_925 rfl rfl ?_
        refine zv_xload_n X dL_law_926 rfl rfl ?_
        refine zv_iload_n X dL_law_927 rfl rfl ?_
        refine zv_iconst (v := (1 : Int32)) X dL_law_928 zic_1 ?_
        refine zv_iadd X dL_law_929 ?_
        refine zb e (fun v162 gv162 e => ?_)
        refine zv_xald XX dL_law_930 gv162 ?_
        refine zb e (fun q163 gq163 e => ?_)
        refine zv_callV (stk := [.int v162, .ref 0]) (as := [.int v162]) (st := []) (k := 0) X zl_RL_96 zm_X9_capacity (k_X9_capacity (d := d - 1) (by omega) gq163) (by omega) zb_0 (by rw [zk_0]; rfl) rfl rfl (Nat.le_of_ble_eq_true rfl) (Nat.le_refl _) rfl dL_law_931 ?_
        show J 934 [(0, .retAddr b), (1, .ref 0), (2, .ref 67), (3, .int a3)] [.int q163.1] 117 zRF q163.2
        refine zv_aload_n X dL_law_934 rfl rfl ?_
        refine zv_xload_n X dL_law_935 rfl rfl ?_
        refine zv_iload_n X dL_law_936 rfl rfl ?_
        refine zv_iconst (v := (1 : Int32)) X dL_law_937 zic_1 ?_
        refine zv_iadd X dL_law_938 ?_
        refine zb e (fun v164 gv164 e => ?_)
        refine zv_xald XX dL_law_939 gv164 ?_
        refine zb e (fun q165 gq165 e => ?_)
        refine zv_callV (stk := [.int v164, .ref 67, .int q163.1]) (as := [.int v164]) (st := [.int q163.1]) (k := 67) X zl_RL_99 zm_X10_capacity (k_X10_capacity (d := d - 1) (by omega) gq165) (by omega) zb_67 (by rw [zk_67]; rfl) rfl rfl (Nat.le_of_ble_eq_true rfl) (Nat.le_refl _) rfl dL_law_940 ?_
        show J 943 [(0, .retAddr b), (1, .ref 0), (2, .ref 67), (3, .int a3)] [.int q165.1, .int q163.1] 117 zRF q165.2
        refine zv_icmp_eq (tgt := 1462) X dL_law_943 (by decide) (fun c166 => ?_) (fun c166 => ?_)
        · replace e := zit e c166
          exact k_law_L1462 q hd X XX ih _ _ e
        · replace e := zif e c166
          refine zv_iconst (v := (0 : Int32)) X dL_law_946 zic_0 ?_
          exact zv_retZ X e rfl zbo_0 dL_law_947
      replace e := zif e c161
      by_cases c167 : v3 = (20 : Int32)
      · replace e := zit e c167
        refine zv_tabIn (off := 915) (tgt := 948) X dL_law_33 (by rw [c167]; decide) (by rw [c167]; decide) (by rw [c167]; decide) (by decide) ?_
        refine zv_aload_n X dL_law_948 rfl rfl ?_
        refine zv_xload_n X dL_law_949 rfl rfl ?_
        refine zv_iload_n X dL_law_950 rfl rfl ?_
        refine zv_iconst (v := (1 : Int32)) X dL_law_951 zic_1 ?_
        refine zv_iadd X dL_law_952 ?_
        refine zb e (fun v168 gv168 e => ?_)
        refine zv_xald XX dL_law_953 gv168 ?_
        refine zb e (fun q169 gq169 e => ?_)
        refine zv_callV (stk := [.int v168, .ref 0]) (as := [.int v168]) (st := []) (k := 0) X zl_RL_100 zm_X9_rounds (k_X9_rounds (d := d - 1) (by omega) gq169) (by omega) zb_0 (by rw [zk_0]; rfl) rfl rfl (Nat.le_of_ble_eq_true rfl) (Nat.le_refl _) rfl dL_law_954 ?_
        show J 957 [(0, .retAddr b), (1, .ref 0), (2, .ref 67), (3, .int a3)] [.int q169.1] 117 zRF q169.2
        refine zv_aload_n X dL_law_957 rfl rfl ?_
        refine zv_xload_n X dL_law_958 rfl rfl ?_
        refine zv_iload_n X dL_law_959 rfl rfl ?_
        refine zv_iconst (v := (1 : Int32)) X dL_law_960 zic_1 ?_
        refine zv_iadd X dL_law_961 ?_
        refine zb e (fun v170 gv170 e => ?_)
        refine zv_xald XX dL_law_962 gv170 ?_
        refine zb e (fun q171 gq171 e => ?_)
        refine zv_callV (stk := [.int v170, .ref 67, .int q169.1]) (as := [.int v170]) (st := [.int q169.1]) (k := 67) X zl_RL_103 zm_X10_rounds (k_X10_rounds (d := d - 1) (by omega) gq171) (by omega) zb_67 (by rw [zk_67]; rfl) rfl rfl (Nat.le_of_ble_eq_true rfl) (Nat.le_refl _) rfl dL_law_963 ?_
        show J 966 [(0, .retAddr b), (1, .ref 0), (2, .ref 67), (3, .int a3)] [.int q171.1, .int q169.1] 117 zRF q171.2
        refine zv_icmp_eq (tgt := 1462) X dL_law_966 (by decide) (fun c172 => ?_) (fun c172 => ?_)
        · replace e := zit e c172
          exact k_law_L1462 q hd X XX ih _ _ e
        · replace e := zif e c172
          refine zv_iconst (v := (0 : Int32)) X dL_law_969 zic_0 ?_
          exact zv_retZ X e rfl zbo_0 dL_law_970
      replace e := zif e c167
      by_cases c173 : v3 = (21 : Int32)
      · replace e := zit e c173
        refine zv_tabIn (off := 938) (tgt := 971) X dL_law_33 (by rw [c173]; decide) (by rw [c173]; decide) (by rw [c173]; decide) (by decide) ?_
        refine zv_aload_n X dL_law_971 rfl rfl ?_
        refine zv_xload_n X dL_law_972 rfl rfl ?_
        refine zv_iload_n X dL_law_973 rfl rfl ?_
        refine zv_iconst (v := (1 : Int32)) X dL_law_974 zic_1 ?_
        refine zv_iadd X dL_law_975 ?_
        refine zb e (fun v174 gv174 e => ?_)
        refine zv_xald XX dL_law_976 gv174 ?_
        refine zv_xload_n X dL_law_977 rfl rfl ?_
        refine zv_iload_n X dL_law_978 rfl rfl ?_
        refine zv_iconst (v := (2 : Int32)) X dL_law_979 zic_2 ?_
        refine zv_iadd X dL_law_980 ?_
        refine zb e (fun v175 gv175 e => ?_)
        refine zv_xald XX dL_law_981 gv175 ?_
        refine zv_xload_n X dL_law_982 rfl rfl ?_
        refine zv_iload_n X dL_law_983 rfl rfl ?_
        refine zv_iconst (v := (3 : Int32)) X dL_law_984 zic_3 ?_
        refine zv_iadd X dL_law_985 ?_
        refine zb e (fun v176 gv176 e => ?_)
        refine zv_xald XX dL_law_986 gv176 ?_
        refine zb e (fun q177 gq177 e => ?_)
        refine zv_callV (stk := [.int v176, .int v175, .int v174, .ref 0]) (as := [.int v174, .int v175, .int v176]) (st := []) (k := 0) X zl_RL_104 zm_X9_roundOf (k_X9_roundOf (d := d - 1) (by omega) gq177) (by omega) zb_0 (by rw [zk_0]; rfl) rfl rfl (Nat.le_of_ble_eq_true rfl) (Nat.le_refl _) rfl dL_law_987 ?_
        show J 990 [(0, .retAddr b), (1, .ref 0), (2, .ref 67), (3, .int a3)] [.int q177.1] 117 zRF q177.2
        refine zv_aload_n X dL_law_990 rfl rfl ?_
        refine zv_xload_n X dL_law_991 rfl rfl ?_
        refine zv_iload_n X dL_law_992 rfl rfl ?_
        refine zv_iconst (v := (1 : Int32)) X dL_law_993 zic_1 ?_
        refine zv_iadd X dL_law_994 ?_
        refine zb e (fun v178 gv178 e => ?_)
        refine zv_xald XX dL_law_995 gv178 ?_
        refine zv_xload_n X dL_law_996 rfl rfl ?_
        refine zv_iload_n X dL_law_997 rfl rfl ?_
        refine zv_iconst (v := (2 : Int32)) X dL_law_998 zic_2 ?_
        refine zv_iadd X dL_law_999 ?_
        refine zb e (fun v179 gv179 e => ?_)
        refine zv_xald XX dL_law_1000 gv179 ?_
        refine zv_xload_n X dL_law_1001 rfl rfl ?_
        refine zv_iload_n X dL_law_1002 rfl rfl ?_
        refine zv_iconst (v := (3 : Int32)) X dL_law_1003 zic_3 ?_
        refine zv_iadd X dL_law_1004 ?_
        refine zb e (fun v180 gv180 e => ?_)
        refine zv_xald XX dL_law_1005 gv180 ?_
        refine zb e (fun q181 gq181 e => ?_)
        refine zv_callV (stk := [.int v180, .int v179, .int v178, .ref 67, .int q177.1]) (as := [.int v178, .int v179, .int v180]) (st := [.int q177.1]) (k := 67) X zl_RL_107 zm_X10_roundOf (k_X10_roundOf (d := d - 1) (by omega) gq181) (by omega) zb_67 (by rw [zk_67]; rfl) rfl rfl (Nat.le_of_ble_eq_true rfl) (Nat.le_refl _) rfl dL_law_1006 ?_
        show J 1009 [(0, .retAddr b), (1, .ref 0), (2, .ref 67), (3, .int a3)] [.int q181.1, .int q177.1] 117 zRF q181.2
        refine zv_icmp_eq (tgt := 1462) X dL_law_1009 (by decide) (fun c182 => ?_) (fun c182 => ?_)
        · replace e := zit e c182
          exact k_law_L1462 q hd X XX ih _ _ e
        · replace e := zif e c182
          refine zv_iconst (v := (0 : Int32)) X dL_law_1012 zic_0 ?_
          exact zv_retZ X e rfl zbo_0 dL_law_1013
      replace e := zif e c173
      by_cases c183 : v3 = (22 : Int32)
      · replace e := zit e c183
        refine zv_tabIn (off := 981) (tgt := 1014) X dL_law_33 (by rw [c183]; decide) (by rw [c183]; decide) (by rw [c183]; decide) (by decide) ?_
        refine zv_aload_n X dL_law_1014 rfl rfl ?_
        refine zb e (fun q184 gq184 e => ?_)
        refine zv_callV (stk := [.ref 0]) (as := []) (st := []) (k := 0) X zl_RL_108 zm_X9_doubles (k_X9_doubles (d := d - 1) (by omega) gq184) (by omega) zb_0 (by rw [zk_0]; rfl) rfl rfl (Nat.le_of_ble_eq_true rfl) (Nat.le_refl _) rfl dL_law_1015 ?_
        show J 1018 [(0, .retAddr b), (1, .ref 0), (2, .ref 67), (3, .int a3)] [.int q184.1] 117 zRF q184.2
        refine zv_aload_n X dL_law_1018 rfl rfl ?_
        refine zb e (fun q185 gq185 e => ?_)
        refine zv_callV (stk := [.ref 67, .int q184.1]) (as := []) (st := [.int q184.1]) (k := 67) X zl_RL_111 zm_X10_doubles (k_X10_doubles (d := d - 1) (by omega) gq185) (by omega) zb_67 (by rw [zk_67]; rfl) rfl rfl (Nat.le_of_ble_eq_true rfl) (Nat.le_refl _) rfl dL_law_1019 ?_
        show J 1022 [(0, .retAddr b), (1, .ref 0), (2, .ref 67), (3, .int a3)] [.int q185.1, .int q184.1] 117 zRF q185.2
        refine zv_icmp_eq (tgt := 1462) X dL_law_1022 (by decide) (fun c186 => ?_) (fun c186 => ?_)
        · replace e := zit e c186
          exact k_law_L1462 q hd X XX ih _ _ e
        · replace e := zif e c186
          refine zv_iconst (v := (0 : Int32)) X dL_law_1025 zic_0 ?_
          exact zv_retZ X e rfl zbo_0 dL_law_1026
      replace e := zif e c183
      by_cases c187 : v3 = (23 : Int32)
      · replace e := zit e c187
        refine zv_tabIn (off := 994) (tgt := 1027) X dL_law_33 (by rw [c187]; decide) (by rw [c187]; decide) (by rw [c187]; decide) (by decide) ?_
        refine zv_aload_n X dL_law_1027 rfl rfl ?_
        refine zv_xload_n X dL_law_1028 rfl rfl ?_
        refine zv_iload_n X dL_law_1029 rfl rfl ?_
        refine zv_iconst (v := (1 : Int32)) X dL_law_1030 zic_1 ?_
        refine zv_iadd X dL_law_1031 ?_
        refine zb e (fun v188 gv188 e => ?_)
        refine zv_xald XX dL_law_1032 gv188 ?_
        refine zv_xload_n X dL_law_1033 rfl rfl ?_
        refine zv_iload_n X dL_law_1034 rfl rfl ?_
        refine zv_iconst (v := (2 : Int32)) X dL_law_1035 zic_2 ?_
        refine zv_iadd X dL_law_1036 ?_
        refine zb e (fun v189 gv189 e => ?_)
        refine zv_xald XX dL_law_1037 gv189 ?_
        refine zb e (fun q190 gq190 e => ?_)
        refine zv_callV (stk := [.int v189, .int v188, .ref 0]) (as := [.int v188, .int v189]) (st := []) (k := 0) X zl_RL_112 zm_X9_habit (k_X9_habit (d := d - 1) (by omega) gq190) (by omega) zb_0 (by rw [zk_0]; rfl) rfl rfl (Nat.le_of_ble_eq_true rfl) (Nat.le_refl _) rfl dL_law_1038 ?_
        show J 1041 [(0, .retAddr b), (1, .ref 0), (2, .ref 67), (3, .int a3)] [.long q190.1] 117 zRF q190.2
        refine zv_aload_n X dL_law_1041 rfl rfl ?_
        refine zv_xload_n X dL_law_1042 rfl rfl ?_
        refine zv_iload_n X dL_law_1043 rfl rfl ?_
        refine zv_iconst (v := (1 : Int32)) X dL_law_1044 zic_1 ?_
        refine zv_iadd X dL_law_1045 ?_
        refine zb e (fun v191 gv191 e => ?_)
        refine zv_xald XX dL_law_1046 gv191 ?_
        refine zv_xload_n X dL_law_1047 rfl rfl ?_
        refine zv_iload_n X dL_law_1048 rfl rfl ?_
        refine zv_iconst (v := (2 : Int32)) X dL_law_1049 zic_2 ?_
        refine zv_iadd X dL_law_1050 ?_
        refine zb e (fun v192 gv192 e => ?_)
        refine zv_xald XX dL_law_1051 gv192 ?_
        refine zb e (fun q193 gq193 e => ?_)
        refine zv_callV (stk := [.int v192, .int v191, .ref 67, .long q190.1]) (as := [.int v191, .int v192]) (st := [.long q190.1]) (k := 67) X zl_RL_116 zm_X10_habit (k_X10_habit (d := d - 1) (by omega) gq193) (by omega) zb_67 (by rw [zk_67]; rfl) rfl rfl (Nat.le_of_ble_eq_true rfl) (Nat.le_refl _) rfl dL_law_1052 ?_
        show J 1055 [(0, .retAddr b), (1, .ref 0), (2, .ref 67), (3, .int a3)] [.long q193.1, .long q190.1] 117 zRF q193.2
        refine zv_lcmp_eq (tgt := 1462) (pc2 := 1059) X dL_law_1055 rfl dL_law_1056 (by decide) rfl (fun c194 => ?_) (fun c194 => ?_)
        · replace e := zit e c194
          exact k_law_L1462 q hd X XX ih _ _ e
        · replace e := zif e c194
          refine zv_iconst (v := (0 : Int32)) X dL_law_1059 zic_0 ?_
          exact zv_retZ X e rfl zbo_0 dL_law_1060
      replace e := zif e c187
      by_cases c195 : v3 = (24 : Int32)
      · replace e := zit e c195
        refine zv_tabIn (off := 1028) (tgt := 1061) X dL_law_33 (by rw [c195]; decide) (by rw [c195]; decide) (by rw [c195]; decide) (by decide) ?_
        refine zv_aload_n X dL_law_1061 rfl rfl ?_
        refine zv_xload_n X dL_law_1062 rfl rfl ?_
        refine zv_iload_n X dL_law_1063 rfl rfl ?_
        refine zv_iconst (v := (1 : Int32)) X dL_law_1064 zic_1 ?_
        refine zv_iadd X dL_law_1065 ?_
        refine zb e (fun v196 gv196 e => ?_)
        refine zv_xald XX dL_law_1066 gv196 ?_
        refine zv_xload_n X dL_law_1067 rfl rfl ?_
        refine zv_iload_n X dL_law_1068 rfl rfl ?_
        refine zv_iconst (v := (2 : Int32)) X dL_law_1069 zic_2 ?_
        refine zv_iadd X dL_law_1070 ?_
        refine zb e (fun v197 gv197 e => ?_)
        refine zv_xald XX dL_law_1071 gv197 ?_
        refine zb e (fun q198 gq198 e => ?_)
        refine zv_callV (stk := [.int v197, .int v196, .ref 0]) (as := [.int v196, .int v197]) (st := []) (k := 0) X zl_RL_117 zm_X9_evened (k_X9_evened (d := d - 1) (by omega) gq198) (by omega) zb_0 (by rw [zk_0]; rfl) rfl rfl (Nat.le_of_ble_eq_true rfl) (Nat.le_refl _) rfl dL_law_1072 ?_
        show J 1075 [(0, .retAddr b), (1, .ref 0), (2, .ref 67), (3, .int a3)] [.long q198.1] 117 zRF q198.2
        refine zv_aload_n X dL_law_1075 rfl rfl ?_
        refine zv_xload_n X dL_law_1076 rfl rfl ?_
        refine zv_iload_n X dL_law_1077 rfl rfl ?_
        refine zv_iconst (v := (1 : Int32)) X dL_law_1078 zic_1 ?_
        refine zv_iadd X dL_law_1079 ?_
        refine zb e (fun v199 gv199 e => ?_)
        refine zv_xald XX dL_law_1080 gv199 ?_
        refine zv_xload_n X dL_law_1081 rfl rfl ?_
        refine zv_iload_n X dL_law_1082 rfl rfl ?_
        refine zv_iconst (v := (2 : Int32)) X dL_law_1083 zic_2 ?_
        refine zv_iadd X dL_law_1084 ?_
        refine zb e (fun v200 gv200 e => ?_)
        refine zv_xald XX dL_law_1085 gv200 ?_
        refine zb e (fun q201 gq201 e => ?_)
        refine zv_callV (stk := [.int v200, .int v199, .ref 67, .long q198.1]) (as := [.int v199, .int v200]) (st := [.long q198.1]) (k := 67) X zl_RL_120 zm_X10_evened (k_X10_evened (d := d - 1) (by omega) gq201) (by omega) zb_67 (by rw [zk_67]; rfl) rfl rfl (Nat.le_of_ble_eq_true rfl) (Nat.le_refl _) rfl dL_law_1086 ?_
        show J 1089 [(0, .retAddr b), (1, .ref 0), (2, .ref 67), (3, .int a3)] [.long q201.1, .long q198.1] 117 zRF q201.2
        refine zv_lcmp_eq (tgt := 1462) (pc2 := 1093) X dL_law_1089 rfl dL_law_1090 (by decide) rfl (fun c202 => ?_) (fun c202 => ?_)
        · replace e := zit e c202
          exact k_law_L1462 q hd X XX ih _ _ e
        · replace e := zif e c202
          refine zv_iconst (v := (0 : Int32)) X dL_law_1093 zic_0 ?_
          exact zv_retZ X e rfl zbo_0 dL_law_1094
      replace e := zif e c195
      by_cases c203 : v3 = (25 : Int32)
      · replace e := zit e c203
        refine zv_tabIn (off := 1062) (tgt := 1095) X dL_law_33 (by rw [c203]; decide) (by rw [c203]; decide) (by rw [c203]; decide) (by decide) ?_
        refine zv_aload_n X dL_law_1095 rfl rfl ?_
        refine zb e (fun q204 gq204 e => ?_)
        refine zv_callV (stk := [.ref 0]) (as := []) (st := []) (k := 0) X zl_RL_121 zm_X9_others (k_X9_others (d := d - 1) (by omega) gq204) (by omega) zb_0 (by rw [zk_0]; rfl) rfl rfl (Nat.le_of_ble_eq_true rfl) (Nat.le_refl _) rfl dL_law_1096 ?_
        show J 1099 [(0, .retAddr b), (1, .ref 0), (2, .ref 67), (3, .int a3)] [.int q204.1] 117 zRF q204.2
        refine zv_aload_n X dL_law_1099 rfl rfl ?_
        refine zb e (fun q205 gq205 e => ?_)
        refine zv_callV (stk := [.ref 67, .int q204.1]) (as := []) (st := [.int q204.1]) (k := 67) X zl_RL_124 zm_X10_others (k_X10_others (d := d - 1) (by omega) gq205) (by omega) zb_67 (by rw [zk_67]; rfl) rfl rfl (Nat.le_of_ble_eq_true rfl) (Nat.le_refl _) rfl dL_law_1100 ?_
        show J 1103 [(0, .retAddr b), (1, .ref 0), (2, .ref 67), (3, .int a3)] [.int q205.1, .int q204.1] 117 zRF q205.2
        refine zv_icmp_eq (tgt := 1462) X dL_law_1103 (by decide) (fun c206 => ?_) (fun c206 => ?_)
        · replace e := zit e c206
          exact k_law_L1462 q hd X XX ih _ _ e
        · replace e := zif e c206
          refine zv_iconst (v := (0 : Int32)) X dL_law_1106 zic_0 ?_
          exact zv_retZ X e rfl zbo_0 dL_law_1107
      replace e := zif e c203
      by_cases c207 : v3 = (26 : Int32)
      · replace e := zit e c207
        refine zv_tabIn (off := 1075) (tgt := 1108) X dL_law_33 (by rw [c207]; decide) (by rw [c207]; decide) (by rw [c207]; decide) (by decide) ?_
        refine zv_aload_n X dL_law_1108 rfl rfl ?_
        refine zv_xload_n X dL_law_1109 rfl rfl ?_
        refine zv_iload_n X dL_law_1110 rfl rfl ?_
        refine zv_iconst (v := (1 : Int32)) X dL_law_1111 zic_1 ?_
        refine zv_iadd X dL_law_1112 ?_
        refine zb e (fun v208 gv208 e => ?_)
        refine zv_xald XX dL_law_1113 gv208 ?_
        refine zv_xload_n X dL_law_1114 rfl rfl ?_
        refine zv_iload_n X dL_law_1115 rfl rfl ?_
        refine zv_iconst (v := (2 : Int32)) X dL_law_1116 zic_2 ?_
        refine zv_iadd X dL_law_1117 ?_
        refine zb e (fun v209 gv209 e => ?_)
        refine zv_xald XX dL_law_1118 gv209 ?_
        refine zv_xload_n X dL_law_1119 rfl rfl ?_
        refine zv_iload_n X dL_law_1120 rfl rfl ?_
        refine zv_iconst (v := (3 : Int32)) X dL_law_1121 zic_3 ?_
        refine zv_iadd X dL_law_1122 ?_
        refine zb e (fun v210 gv210 e => ?_)
        refine zv_xald XX dL_law_1123 gv210 ?_
        refine zb e (fun q211 gq211 e => ?_)
        refine zv_callV (stk := [.int v210, .int v209, .int v208, .ref 0]) (as := [.int v208, .int v209, .int v210]) (st := []) (k := 0) X zl_RL_125 zm_X9_swap (k_X9_swap (d := d - 1) (by omega) gq211) (by omega) zb_0 (by rw [zk_0]; rfl) rfl rfl (Nat.le_of_ble_eq_true rfl) (Nat.le_refl _) rfl dL_law_1124 ?_
        show J 1127 [(0, .retAddr b), (1, .ref 0), (2, .ref 67), (3, .int a3)] [.int q211.1] 117 zRF q211.2
        refine zv_aload_n X dL_law_1127 rfl rfl ?_
        refine zv_xload_n X dL_law_1128 rfl rfl ?_
        refine zv_iload_n X dL_law_1129 rfl rfl ?_
        refine zv_iconst (v := (1 : Int32)) X dL_law_1130 zic_1 ?_
        refine zv_iadd X dL_law_1131 ?_
        refine zb e (fun v212 gv212 e => ?_)
        refine zv_xald XX dL_law_1132 gv212 ?_
        refine zv_xload_n X dL_law_1133 rfl rfl ?_
        refine zv_iload_n X dL_law_1134 rfl rfl ?_
        refine zv_iconst (v := (2 : Int32)) X dL_law_1135 zic_2 ?_
        refine zv_iadd X dL_law_1136 ?_
        refine zb e (fun v213 gv213 e => ?_)
        refine zv_xald XX dL_law_1137 gv213 ?_
        refine zv_xload_n X dL_law_1138 rfl rfl ?_
        refine zv_iload_n X dL_law_1139 rfl rfl ?_
        refine zv_iconst (v := (3 : Int32)) X dL_law_1140 zic_3 ?_
        refine zv_iadd X dL_law_1141 ?_
        refine zb e (fun v214 gv214 e => ?_)
        refine zv_xald XX dL_law_1142 gv214 ?_
        refine zb e (fun q215 gq215 e => ?_)
        refine zv_callV (stk := [.int v214, .int v213, .int v212, .ref 67, .int q211.1]) (as := [.int v212, .int v213, .int v214]) (st := [.int q211.1]) (k := 67) X zl_RL_128 zm_X10_swap (k_X10_swap (d := d - 1) (by omega) gq215) (by omega) zb_67 (by rw [zk_67]; rfl) rfl rfl (Nat.le_of_ble_eq_true rfl) (Nat.le_refl _) rfl dL_law_1143 ?_
        show J 1146 [(0, .retAddr b), (1, .ref 0), (2, .ref 67), (3, .int a3)] [.int q215.1, .int q211.1] 117 zRF q215.2
        refine zv_icmp_eq (tgt := 1462) X dL_law_1146 (by decide) (fun c216 => ?_) (fun c216 => ?_)
        · replace e := zit e c216
          exact k_law_L1462 q hd X XX ih _ _ e
        · replace e := zif e c216
          refine zv_iconst (v := (0 : Int32)) X dL_law_1149 zic_0 ?_
          exact zv_retZ X e rfl zbo_0 dL_law_1150
      replace e := zif e c207
      by_cases c217 : v3 = (27 : Int32)
      · replace e := zit e c217
        refine zv_tabIn (off := 1118) (tgt := 1151) X dL_law_33 (by rw [c217]; decide) (by rw [c217]; decide) (by rw [c217]; decide) (by decide) ?_
        refine zv_aload_n X dL_law_1151 rfl rfl ?_
        refine zv_xload_n X dL_law_1152 rfl rfl ?_
        refine zv_iload_n X dL_law_1153 rfl rfl ?_
        refine zv_iconst (v := (1 : Int32)) X dL_law_1154 zic_1 ?_
        refine zv_iadd X dL_law_1155 ?_
        refine zb e (fun v218 gv218 e => ?_)
        refine zv_xald XX dL_law_1156 gv218 ?_
        refine zv_xload_n X dL_law_1157 rfl rfl ?_
        refine zv_iload_n X dL_law_1158 rfl rfl ?_
        refine zv_iconst (v := (2 : Int32)) X dL_law_1159 zic_2 ?_
        refine zv_iadd X dL_law_1160 ?_
        refine zb e (fun v219 gv219 e => ?_)
        refine zv_xald XX dL_law_1161 gv219 ?_
        refine zv_xload_n X dL_law_1162 rfl rfl ?_
        refine zv_iload_n X dL_law_1163 rfl rfl ?_
        refine zv_iconst (v := (3 : Int32)) X dL_law_1164 zic_3 ?_
        refine zv_iadd X dL_law_1165 ?_
        refine zb e (fun v220 gv220 e => ?_)
        refine zv_xald XX dL_law_1166 gv220 ?_
        refine zb e (fun q221 gq221 e => ?_)
        refine zv_callV (stk := [.int v220, .int v219, .int v218, .ref 0]) (as := [.int v218, .int v219, .int v220]) (st := []) (k := 0) X zl_RL_129 zm_X9_shut (k_X9_shut (d := d - 1) (by omega) gq221) (by omega) zb_0 (by rw [zk_0]; rfl) rfl rfl (Nat.le_of_ble_eq_true rfl) (Nat.le_refl _) rfl dL_law_1167 ?_
        show J 1170 [(0, .retAddr b), (1, .ref 0), (2, .ref 67), (3, .int a3)] [.int q221.1] 117 zRF q221.2
        refine zv_aload_n X dL_law_1170 rfl rfl ?_
        refine zv_xload_n X dL_law_1171 rfl rfl ?_
        refine zv_iload_n X dL_law_1172 rfl rfl ?_
        refine zv_iconst (v := (1 : Int32)) X dL_law_1173 zic_1 ?_
        refine zv_iadd X dL_law_1174 ?_
        refine zb e (fun v222 gv222 e => ?_)
        refine zv_xald XX dL_law_1175 gv222 ?_
        refine zv_xload_n X dL_law_1176 rfl rfl ?_
        refine zv_iload_n X dL_law_1177 rfl rfl ?_
        refine zv_iconst (v := (2 : Int32)) X dL_law_1178 zic_2 ?_
        refine zv_iadd X dL_law_1179 ?_
        refine zb e (fun v223 gv223 e => ?_)
        refine zv_xald XX dL_law_1180 gv223 ?_
        refine zv_xload_n X dL_law_1181 rfl rfl ?_
        refine zv_iload_n X dL_law_1182 rfl rfl ?_
        refine zv_iconst (v := (3 : Int32)) X dL_law_1183 zic_3 ?_
        refine zv_iadd X dL_law_1184 ?_
        refine zb e (fun v224 gv224 e => ?_)
        refine zv_xald XX dL_law_1185 gv224 ?_
        refine zb e (fun q225 gq225 e => ?_)
        refine zv_callV (stk := [.int v224, .int v223, .int v222, .ref 67, .int q221.1]) (as := [.int v222, .int v223, .int v224]) (st := [.int q221.1]) (k := 67) X zl_RL_132 zm_X10_shut (k_X10_shut (d := d - 1) (by omega) gq225) (by omega) zb_67 (by rw [zk_67]; rfl) rfl rfl (Nat.le_of_ble_eq_true rfl) (Nat.le_refl _) rfl dL_law_1186 ?_
        show J 1189 [(0, .retAddr b), (1, .ref 0), (2, .ref 67), (3, .int a3)] [.int q225.1, .int q221.1] 117 zRF q225.2
        refine zv_icmp_eq (tgt := 1462) X dL_law_1189 (by decide) (fun c226 => ?_) (fun c226 => ?_)
        · replace e := zit e c226
          exact k_law_L1462 q hd X XX ih _ _ e
        · replace e := zif e c226
          refine zv_iconst (v := (0 : Int32)) X dL_law_1192 zic_0 ?_
          exact zv_retZ X e rfl zbo_0 dL_law_1193
      replace e := zif e c217
      by_cases c227 : v3 = (28 : Int32)
      · replace e := zit e c227
        refine zv_tabIn (off := 1161) (tgt := 1194) X dL_law_33 (by rw [c227]; decide) (by rw [c227]; decide) (by rw [c227]; decide) (by decide) ?_
        refine zv_aload_n X dL_law_1194 rfl rfl ?_
        refine zv_xload_n X dL_law_1195 rfl rfl ?_
        refine zv_iload_n X dL_law_1196 rfl rfl ?_
        refine zv_iconst (v := (1 : Int32)) X dL_law_1197 zic_1 ?_
        refine zv_iadd X dL_law_1198 ?_
        refine zb e (fun v228 gv228 e => ?_)
        refine zv_xald XX dL_law_1199 gv228 ?_
        refine zv_xload_n X dL_law_1200 rfl rfl ?_
        refine zv_iload_n X dL_law_1201 rfl rfl ?_
        refine zv_iconst (v := (2 : Int32)) X dL_law_1202 zic_2 ?_
        refine zv_iadd X dL_law_1203 ?_
        refine zb e (fun v229 gv229 e => ?_)
        refine zv_xald XX dL_law_1204 gv229 ?_
        refine zv_xload_n X dL_law_1205 rfl rfl ?_
        refine zv_iload_n X dL_law_1206 rfl rfl ?_
        refine zv_iconst (v := (3 : Int32)) X dL_law_1207 zic_3 ?_
        refine zv_iadd X dL_law_1208 ?_
        refine zb e (fun v230 gv230 e => ?_)
        refine zv_xald XX dL_law_1209 gv230 ?_
        refine zv_xload_n X dL_law_1210 rfl rfl ?_
        refine zv_iload_n X dL_law_1211 rfl rfl ?_
        refine zv_iconst (v := (4 : Int32)) X dL_law_1212 zic_4 ?_
        refine zv_iadd X dL_law_1213 ?_
        refine zb e (fun v231 gv231 e => ?_)
        refine zv_xald XX dL_law_1214 gv231 ?_
        refine zb e (fun q232 gq232 e => ?_)
        refine zv_callV (stk := [.int v231, .int v230, .int v229, .int v228, .ref 0]) (as := [.int v228, .int v229, .int v230, .int v231]) (st := []) (k := 0) X zl_RL_133 zm_X9_complaint (k_X9_complaint (d := d - 1) (by omega) gq232) (by omega) zb_0 (by rw [zk_0]; rfl) rfl rfl (Nat.le_of_ble_eq_true rfl) (Nat.le_refl _) rfl dL_law_1215 ?_
        show J 1218 [(0, .retAddr b), (1, .ref 0), (2, .ref 67), (3, .int a3)] [.int q232.1] 117 zRF q232.2
        refine zv_aload_n X dL_law_1218 rfl rfl ?_
        refine zv_xload_n X dL_law_1219 rfl rfl ?_
        refine zv_iload_n X dL_law_1220 rfl rfl ?_
        refine zv_iconst (v := (1 : Int32)) X dL_law_1221 zic_1 ?_
        refine zv_iadd X dL_law_1222 ?_
        refine zb e (fun v233 gv233 e => ?_)
        refine zv_xald XX dL_law_1223 gv233 ?_
        refine zv_xload_n X dL_law_1224 rfl rfl ?_
        refine zv_iload_n X dL_law_1225 rfl rfl ?_
        refine zv_iconst (v := (2 : Int32)) X dL_law_1226 zic_2 ?_
        refine zv_iadd X dL_law_1227 ?_
        refine zb e (fun v234 gv234 e => ?_)
        refine zv_xald XX dL_law_1228 gv234 ?_
        refine zv_xload_n X dL_law_1229 rfl rfl ?_
        refine zv_iload_n X dL_law_1230 rfl rfl ?_
        refine zv_iconst (v := (3 : Int32)) X dL_law_1231 zic_3 ?_
        refine zv_iadd X dL_law_1232 ?_
        refine zb e (fun v235 gv235 e => ?_)
        refine zv_xald XX dL_law_1233 gv235 ?_
        refine zv_xload_n X dL_law_1234 rfl rfl ?_
        refine zv_iload_n X dL_law_1235 rfl rfl ?_
        refine zv_iconst (v := (4 : Int32)) X dL_law_1236 zic_4 ?_
        refine zv_iadd X dL_law_1237 ?_
        refine zb e (fun v236 gv236 e => ?_)
        refine zv_xald XX dL_law_1238 gv236 ?_
        refine zb e (fun q237 gq237 e => ?_)
        refine zv_callV (stk := [.int v236, .int v235, .int v234, .int v233, .ref 67, .int q232.1]) (as := [.int v233, .int v234, .int v235, .int v236]) (st := [.int q232.1]) (k := 67) X zl_RL_137 zm_X10_complaint (k_X10_complaint (d := d - 1) (by omega) gq237) (by omega) zb_67 (by rw [zk_67]; rfl) rfl rfl (Nat.le_of_ble_eq_true rfl) (Nat.le_refl _) rfl dL_law_1239 ?_
        show J 1242 [(0, .retAddr b), (1, .ref 0), (2, .ref 67), (3, .int a3)] [.int q237.1, .int q232.1] 117 zRF q237.2
        refine zv_icmp_eq (tgt := 1462) X dL_law_1242 (by decide) (fun c238 => ?_) (fun c238 => ?_)
        · replace e := zit e c238
          exact k_law_L1462 q hd X XX ih _ _ e
        · replace e := zif e c238
          refine zv_iconst (v := (0 : Int32)) X dL_law_1245 zic_0 ?_
          exact zv_retZ X e rfl zbo_0 dL_law_1246
      replace e := zif e c227
      by_cases c239 : v3 = (29 : Int32)
      · replace e := zit e c239
        refine zv_tabIn (off := 1214) (tgt := 1247) X dL_law_33 (by rw [c239]; decide) (by rw [c239]; decide) (by rw [c239]; decide) (by decide) ?_
        refine zv_aload_n X dL_law_1247 rfl rfl ?_
        refine zv_xload_n X dL_law_1248 rfl rfl ?_
        refine zv_iload_n X dL_law_1249 rfl rfl ?_
        refine zv_iconst (v := (1 : Int32)) X dL_law_1250 zic_1 ?_
        refine zv_iadd X dL_law_1251 ?_
        refine zb e (fun v240 gv240 e => ?_)
        refine zv_xald XX dL_law_1252 gv240 ?_
        refine zv_xload_n X dL_law_1253 rfl rfl ?_
        refine zv_iload_n X dL_law_1254 rfl rfl ?_
        refine zv_iconst (v := (2 : Int32)) X dL_law_1255 zic_2 ?_
        refine zv_iadd X dL_law_1256 ?_
        refine zb e (fun v241 gv241 e => ?_)
        refine zv_xald XX dL_law_1257 gv241 ?_
        refine zv_xload_n X dL_law_1258 rfl rfl ?_
        refine zv_iload_n X dL_law_1259 rfl rfl ?_
        refine zv_iconst (v := (3 : Int32)) X dL_law_1260 zic_3 ?_
        refine zv_iadd X dL_law_1261 ?_
        refine zb e (fun v242 gv242 e => ?_)
        refine zv_xald XX dL_law_1262 gv242 ?_
        refine zb e (fun q243 gq243 e => ?_)
        refine zv_callV (stk := [.int v242, .int v241, .int v240, .ref 0]) (as := [.int v240, .int v241, .int v242]) (st := []) (k := 0) X zl_RL_138 zm_X9_part (k_X9_part (d := d - 1) (by omega) gq243) (by omega) zb_0 (by rw [zk_0]; rfl) rfl rfl (Nat.le_of_ble_eq_true rfl) (Nat.le_refl _) rfl dL_law_1263 ?_
        show J 1266 [(0, .retAddr b), (1, .ref 0), (2, .ref 67), (3, .int a3)] [.int q243.1] 117 zRF q243.2
        refine zv_aload_n X dL_law_1266 rfl rfl ?_
        refine zv_xload_n X dL_law_1267 rfl rfl ?_
        refine zv_iload_n X dL_law_1268 rfl rfl ?_
        refine zv_iconst (v := (1 : Int32)) X dL_law_1269 zic_1 ?_
        refine zv_iadd X dL_law_1270 ?_
        refine zb e (fun v244 gv244 e => ?_)
        refine zv_xald XX dL_law_1271 gv244 ?_
        refine zv_xload_n X dL_law_1272 rfl rfl ?_
        refine zv_iload_n X dL_law_1273 rfl rfl ?_
        refine zv_iconst (v := (2 : Int32)) X dL_law_1274 zic_2 ?_
        refine zv_iadd X dL_law_1275 ?_
        refine zb e (fun v245 gv245 e => ?_)
        refine zv_xald XX dL_law_1276 gv245 ?_
        refine zv_xload_n X dL_law_1277 rfl rfl ?_
        refine zv_iload_n X dL_law_1278 rfl rfl ?_
        refine zv_iconst (v := (3 : Int32)) X dL_law_1279 zic_3 ?_
        refine zv_iadd X dL_law_1280 ?_
        refine zb e (fun v246 gv246 e => ?_)
        refine zv_xald XX dL_law_1281 gv246 ?_
        refine zb e (fun q247 gq247 e => ?_)
        refine zv_callV (stk := [.int v246, .int v245, .int v244, .ref 67, .int q243.1]) (as := [.int v244, .int v245, .int v246]) (st := [.int q243.1]) (k := 67) X zl_RL_141 zm_X10_part (k_X10_part (d := d - 1) (by omega) gq247) (by omega) zb_67 (by rw [zk_67]; rfl) rfl rfl (Nat.le_of_ble_eq_true rfl) (Nat.le_refl _) rfl dL_law_1282 ?_
        show J 1285 [(0, .retAddr b), (1, .ref 0), (2, .ref 67), (3, .int a3)] [.int q247.1, .int q243.1] 117 zRF q247.2
        refine zv_icmp_eq (tgt := 1462) X dL_law_1285 (by decide) (fun c248 => ?_) (fun c248 => ?_)
        · replace e := zit e c248
          exact k_law_L1462 q hd X XX ih _ _ e
        · replace e := zif e c248
          refine zv_iconst (v := (0 : Int32)) X dL_law_1288 zic_0 ?_
          exact zv_retZ X e rfl zbo_0 dL_law_1289
      replace e := zif e c239
      by_cases c249 : v3 = (30 : Int32)
      · replace e := zit e c249
        refine zv_tabIn (off := 1257) (tgt := 1290) X dL_law_33 (by rw [c249]; decide) (by rw [c249]; decide) (by rw [c249]; decide) (by decide) ?_
        refine zv_aload_n X dL_law_1290 rfl rfl ?_
        refine zv_xload_n X dL_law_1291 rfl rfl ?_
        refine zv_iload_n X dL_law_1292 rfl rfl ?_
        refine zv_iconst (v := (1 : Int32)) X dL_law_1293 zic_1 ?_
        refine zv_iadd X dL_law_1294 ?_
        refine zb e (fun v250 gv250 e => ?_)
        refine zv_xald XX dL_law_1295 gv250 ?_
        refine zb e (fun q251 gq251 e => ?_)
        refine zv_callV (stk := [.int v250, .ref 0]) (as := [.int v250]) (st := []) (k := 0) X zl_RL_142 zm_X9_joined (k_X9_joined (d := d - 1) (by omega) gq251) (by omega) zb_0 (by rw [zk_0]; rfl) rfl rfl (Nat.le_of_ble_eq_true rfl) (Nat.le_refl _) rfl dL_law_1296 ?_
        show J 1299 [(0, .retAddr b), (1, .ref 0), (2, .ref 67), (3, .int a3)] [.int q251.1] 117 zRF q251.2
        refine zv_aload_n X dL_law_1299 rfl rfl ?_
        refine zv_xload_n X dL_law_1300 rfl rfl ?_
        refine zv_iload_n X dL_law_1301 rfl rfl ?_
        refine zv_iconst (v := (1 : Int32)) X dL_law_1302 zic_1 ?_
        refine zv_iadd X dL_law_1303 ?_
        refine zb e (fun v252 gv252 e => ?_)
        refine zv_xald XX dL_law_1304 gv252 ?_
        refine zb e (fun q253 gq253 e => ?_)
        refine zv_callV (stk := [.int v252, .ref 67, .int q251.1]) (as := [.int v252]) (st := [.int q251.1]) (k := 67) X zl_RL_145 zm_X10_joined (k_X10_joined (d := d - 1) (by omega) gq253) (by omega) zb_67 (by rw [zk_67]; rfl) rfl rfl (Nat.le_of_ble_eq_true rfl) (Nat.le_refl _) rfl dL_law_1305 ?_
        show J 1308 [(0, .retAddr b), (1, .ref 0), (2, .ref 67), (3, .int a3)] [.int q253.1, .int q251.1] 117 zRF q253.2
        refine zv_icmp_eq (tgt := 1462) X dL_law_1308 (by decide) (fun c254 => ?_) (fun c254 => ?_)
        · replace e := zit e c254
          exact k_law_L1462 q hd X XX ih _ _ e
        · replace e := zif e c254
          refine zv_iconst (v := (0 : Int32)) X dL_law_1311 zic_0 ?_
          exact zv_retZ X e rfl zbo_0 dL_law_1312
      replace e := zif e c249
      by_cases c255 : v3 = (31 : Int32)
      · replace e := zit e c255
        refine zv_tabIn (off := 1280) (tgt := 1313) X dL_law_33 (by rw [c255]; decide) (by rw [c255]; decide) (by rw [c255]; decide) (by decide) ?_
        refine zv_aload_n X dL_law_1313 rfl rfl ?_
        refine zv_xload_n X dL_law_1314 rfl rfl ?_
        refine zv_iload_n X dL_law_1315 rfl rfl ?_
        refine zv_iconst (v := (1 : Int32)) X dL_law_1316 zic_1 ?_
        refine zv_iadd X dL_law_1317 ?_
        refine zb e (fun v256 gv256 e => ?_)
        refine zv_xald XX dL_law_1318 gv256 ?_
        refine zv_xload_n X dL_law_1319 rfl rfl ?_
        refine zv_iload_n X dL_law_1320 rfl rfl ?_
        refine zv_iconst (v := (2 : Int32)) X dL_law_1321 zic_2 ?_
        refine zv_iadd X dL_law_1322 ?_
        refine zb e (fun v257 gv257 e => ?_)
        refine zv_xald XX dL_law_1323 gv257 ?_
        refine zb e (fun q258 gq258 e => ?_)
        refine zv_callV (stk := [.int v257, .int v256, .ref 0]) (as := [.int v256, .int v257]) (st := []) (k := 0) X zl_RL_146 zm_X9_began (k_X9_began (d := d - 1) (by omega) gq258) (by omega) zb_0 (by rw [zk_0]; rfl) rfl rfl (Nat.le_of_ble_eq_true rfl) (Nat.le_refl _) rfl dL_law_1324 ?_
        show J 1327 [(0, .retAddr b), (1, .ref 0), (2, .ref 67), (3, .int a3)] [.int q258.1] 117 zRF q258.2
        refine zv_aload_n X dL_law_1327 rfl rfl ?_
        refine zv_xload_n X dL_law_1328 rfl rfl ?_
        refine zv_iload_n X dL_law_1329 rfl rfl ?_
        refine zv_iconst (v := (1 : Int32)) X dL_law_1330 zic_1 ?_
        refine zv_iadd X dL_law_1331 ?_
        refine zb e (fun v259 gv259 e => ?_)
        refine zv_xald XX dL_law_1332 gv259 ?_
        refine zv_xload_n X dL_law_1333 rfl rfl ?_
        refine zv_iload_n X dL_law_1334 rfl rfl ?_
        refine zv_iconst (v := (2 : Int32)) X dL_law_1335 zic_2 ?_
        refine zv_iadd X dL_law_1336 ?_
        refine zb e (fun v260 gv260 e => ?_)
        refine zv_xald XX dL_law_1337 gv260 ?_
        refine zb e (fun q261 gq261 e => ?_)
        refine zv_callV (stk := [.int v260, .int v259, .ref 67, .int q258.1]) (as := [.int v259, .int v260]) (st := [.int q258.1]) (k := 67) X zl_RL_149 zm_X10_began (k_X10_began (d := d - 1) (by omega) gq261) (by omega) zb_67 (by rw [zk_67]; rfl) rfl rfl (Nat.le_of_ble_eq_true rfl) (Nat.le_refl _) rfl dL_law_1338 ?_
        show J 1341 [(0, .retAddr b), (1, .ref 0), (2, .ref 67), (3, .int a3)] [.int q261.1, .int q258.1] 117 zRF q261.2
        refine zv_icmp_eq (tgt := 1462) X dL_law_1341 (by decide) (fun c262 => ?_) (fun c262 => ?_)
        · replace e := zit e c262
          exact k_law_L1462 q hd X XX ih _ _ e
        · replace e := zif e c262
          refine zv_iconst (v := (0 : Int32)) X dL_law_1344 zic_0 ?_
          exact zv_retZ X e rfl zbo_0 dL_law_1345
      replace e := zif e c255
      by_cases c263 : v3 = (32 : Int32)
      · replace e := zit e c263
        refine zv_tabIn (off := 1313) (tgt := 1346) X dL_law_33 (by rw [c263]; decide) (by rw [c263]; decide) (by rw [c263]; decide) (by decide) ?_
        refine zv_aload_n X dL_law_1346 rfl rfl ?_
        refine zv_xload_n X dL_law_1347 rfl rfl ?_
        refine zv_iload_n X dL_law_1348 rfl rfl ?_
        refine zv_iconst (v := (1 : Int32)) X dL_law_1349 zic_1 ?_
        refine zv_iadd X dL_law_1350 ?_
        refine zb e (fun v264 gv264 e => ?_)
        refine zv_xald XX dL_law_1351 gv264 ?_
        refine zv_xload_n X dL_law_1352 rfl rfl ?_
        refine zv_iload_n X dL_law_1353 rfl rfl ?_
        refine zv_iconst (v := (2 : Int32)) X dL_law_1354 zic_2 ?_
        refine zv_iadd X dL_law_1355 ?_
        refine zb e (fun v265 gv265 e => ?_)
        refine zv_xald XX dL_law_1356 gv265 ?_
        refine zv_xload_n X dL_law_1357 rfl rfl ?_
        refine zv_iload_n X dL_law_1358 rfl rfl ?_
        refine zv_iconst (v := (3 : Int32)) X dL_law_1359 zic_3 ?_
        refine zv_iadd X dL_law_1360 ?_
        refine zb e (fun v266 gv266 e => ?_)
        refine zv_xald XX dL_law_1361 gv266 ?_
        refine zb e (fun q267 gq267 e => ?_)
        refine zv_callV (stk := [.int v266, .int v265, .int v264, .ref 0]) (as := [.int v264, .int v265, .int v266]) (st := []) (k := 0) X zl_RL_150 zm_X9_cases (k_X9_cases (d := d - 1) (by omega) gq267) (by omega) zb_0 (by rw [zk_0]; rfl) rfl rfl (Nat.le_of_ble_eq_true rfl) (Nat.le_refl _) rfl dL_law_1362 ?_
        show J 1365 [(0, .retAddr b), (1, .ref 0), (2, .ref 67), (3, .int a3)] [.int q267.1] 117 zRF q267.2
        refine zv_aload_n X dL_law_1365 rfl rfl ?_
        refine zv_xload_n X dL_law_1366 rfl rfl ?_
        refine zv_iload_n X dL_law_1367 rfl rfl ?_
        refine zv_iconst (v := (1 : Int32)) X dL_law_1368 zic_1 ?_
        refine zv_iadd X dL_law_1369 ?_
        refine zb e (fun v268 gv268 e => ?_)
        refine zv_xald XX dL_law_1370 gv268 ?_
        refine zv_xload_n X dL_law_1371 rfl rfl ?_
        refine zv_iload_n X dL_law_1372 rfl rfl ?_
        refine zv_iconst (v := (2 : Int32)) X dL_law_1373 zic_2 ?_
        refine zv_iadd X dL_law_1374 ?_
        refine zb e (fun v269 gv269 e => ?_)
        refine zv_xald XX dL_law_1375 gv269 ?_
        refine zv_xload_n X dL_law_1376 rfl rfl ?_
        refine zv_iload_n X dL_law_1377 rfl rfl ?_
        refine zv_iconst (v := (3 : Int32)) X dL_law_1378 zic_3 ?_
        refine zv_iadd X dL_law_1379 ?_
        refine zb e (fun v270 gv270 e => ?_)
        refine zv_xald XX dL_law_1380 gv270 ?_
        refine zb e (fun q271 gq271 e => ?_)
        refine zv_callV (stk := [.int v270, .int v269, .int v268, .ref 67, .int q267.1]) (as := [.int v268, .int v269, .int v270]) (st := [.int q267.1]) (k := 67) X zl_RL_153 zm_X10_cases (k_X10_cases (d := d - 1) (by omega) gq271) (by omega) zb_67 (by rw [zk_67]; rfl) rfl rfl (Nat.le_of_ble_eq_true rfl) (Nat.le_refl _) rfl dL_law_1381 ?_
        show J 1384 [(0, .retAddr b), (1, .ref 0), (2, .ref 67), (3, .int a3)] [.int q271.1, .int q267.1] 117 zRF q271.2
        refine zv_icmp_eq (tgt := 1462) X dL_law_1384 (by decide) (fun c272 => ?_) (fun c272 => ?_)
        · replace e := zit e c272
          exact k_law_L1462 q hd X XX ih _ _ e
        · replace e := zif e c272
          refine zv_iconst (v := (0 : Int32)) X dL_law_1387 zic_0 ?_
          exact zv_retZ X e rfl zbo_0 dL_law_1388
      replace e := zif e c263
      by_cases c273 : v3 = (33 : Int32)
      · replace e := zit e c273
        refine zv_tabIn (off := 1356) (tgt := 1389) X dL_law_33 (by rw [c273]; decide) (by rw [c273]; decide) (by rw [c273]; decide) (by decide) ?_
        refine zv_aload_n X dL_law_1389 rfl rfl ?_
        refine zv_xload_n X dL_law_1390 rfl rfl ?_
        refine zv_iload_n X dL_law_1391 rfl rfl ?_
        refine zv_iconst (v := (1 : Int32)) X dL_law_1392 zic_1 ?_
        refine zv_iadd X dL_law_1393 ?_
        refine zb e (fun v274 gv274 e => ?_)
        refine zv_xald XX dL_law_1394 gv274 ?_
        refine zb e (fun q275 gq275 e => ?_)
        refine zv_callV (stk := [.int v274, .ref 0]) (as := [.int v274]) (st := []) (k := 0) X zl_RL_154 zm_X9_effect (k_X9_effect (d := d - 1) (by omega) gq275) (by omega) zb_0 (by rw [zk_0]; rfl) rfl rfl (Nat.le_of_ble_eq_true rfl) (Nat.le_refl _) rfl dL_law_1395 ?_
        show J 1398 [(0, .retAddr b), (1, .ref 0), (2, .ref 67), (3, .int a3)] [.long q275.1] 117 zRF q275.2
        refine zv_aload_n X dL_law_1398 rfl rfl ?_
        refine zv_xload_n X dL_law_1399 rfl rfl ?_
        refine zv_iload_n X dL_law_1400 rfl rfl ?_
        refine zv_iconst (v := (1 : Int32)) X dL_law_1401 zic_1 ?_
        refine zv_iadd X dL_law_1402 ?_
        refine zb e (fun v276 gv276 e => ?_)
        refine zv_xald XX dL_law_1403 gv276 ?_
        refine zb e (fun q277 gq277 e => ?_)
        refine zv_callV (stk := [.int v276, .ref 67, .long q275.1]) (as := [.int v276]) (st := [.long q275.1]) (k := 67) X zl_RL_158 zm_X10_effect (k_X10_effect (d := d - 1) (by omega) gq277) (by omega) zb_67 (by rw [zk_67]; rfl) rfl rfl (Nat.le_of_ble_eq_true rfl) (Nat.le_refl _) rfl dL_law_1404 ?_
        show J 1407 [(0, .retAddr b), (1, .ref 0), (2, .ref 67), (3, .int a3)] [.long q277.1, .long q275.1] 117 zRF q277.2
        refine zv_lcmp_eq (tgt := 1462) (pc2 := 1411) X dL_law_1407 rfl dL_law_1408 (by decide) rfl (fun c278 => ?_) (fun c278 => ?_)
        · replace e := zit e c278
          exact k_law_L1462 q hd X XX ih _ _ e
        · replace e := zif e c278
          refine zv_iconst (v := (0 : Int32)) X dL_law_1411 zic_0 ?_
          exact zv_retZ X e rfl zbo_0 dL_law_1412
      replace e := zif e c273
      by_cases c279 : v3 = (34 : Int32)
      · replace e := zit e c279
        refine zv_tabIn (off := 1380) (tgt := 1413) X dL_law_33 (by rw [c279]; decide) (by rw [c279]; decide) (by rw [c279]; decide) (by decide) ?_
        refine zv_aload_n X dL_law_1413 rfl rfl ?_
        refine zb e (fun q280 gq280 e => ?_)
        refine zv_callV (stk := [.ref 0]) (as := []) (st := []) (k := 0) X zl_RL_159 zm_X9_chance (k_X9_chance (d := d - 1) (by omega) gq280) (by omega) zb_0 (by rw [zk_0]; rfl) rfl rfl (Nat.le_of_ble_eq_true rfl) (Nat.le_refl _) rfl dL_law_1414 ?_
        show J 1417 [(0, .retAddr b), (1, .ref 0), (2, .ref 67), (3, .int a3)] [.int q280.1] 117 zRF q280.2
        refine zv_aload_n X dL_law_1417 rfl rfl ?_
        refine zb e (fun q281 gq281 e => ?_)
        refine zv_callV (stk := [.ref 67, .int q280.1]) (as := []) (st := [.int q280.1]) (k := 67) X zl_RL_162 zm_X10_chance (k_X10_chance (d := d - 1) (by omega) gq281) (by omega) zb_67 (by rw [zk_67]; rfl) rfl rfl (Nat.le_of_ble_eq_true rfl) (Nat.le_refl _) rfl dL_law_1418 ?_
        show J 1421 [(0, .retAddr b), (1, .ref 0), (2, .ref 67), (3, .int a3)] [.int q281.1, .int q280.1] 117 zRF q281.2
        refine zv_icmp_eq (tgt := 1462) X dL_law_1421 (by decide) (fun c282 => ?_) (fun c282 => ?_)
        · replace e := zit e c282
          exact k_law_L1462 q hd X XX ih _ _ e
        · replace e := zif e c282
          refine zv_iconst (v := (0 : Int32)) X dL_law_1424 zic_0 ?_
          exact zv_retZ X e rfl zbo_0 dL_law_1425
      replace e := zif e c279
      by_cases c283 : v3 = (35 : Int32)
      · replace e := zit e c283
        refine zv_tabIn (off := 1393) (tgt := 1426) X dL_law_33 (by rw [c283]; decide) (by rw [c283]; decide) (by rw [c283]; decide) (by decide) ?_
        refine zv_aload_n X dL_law_1426 rfl rfl ?_
        refine zb e (fun q284 gq284 e => ?_)
        refine zv_callV (stk := [.ref 0]) (as := []) (st := []) (k := 0) X zl_RL_163 zm_X9_helped (k_X9_helped (d := d - 1) (by omega) gq284) (by omega) zb_0 (by rw [zk_0]; rfl) rfl rfl (Nat.le_of_ble_eq_true rfl) (Nat.le_refl _) rfl dL_law_1427 ?_
        show J 1430 [(0, .retAddr b), (1, .ref 0), (2, .ref 67), (3, .int a3)] [.int q284.1] 117 zRF q284.2
        refine zv_aload_n X dL_law_1430 rfl rfl ?_
        refine zb e (fun q285 gq285 e => ?_)
        refine zv_callV (stk := [.ref 67, .int q284.1]) (as := []) (st := [.int q284.1]) (k := 67) X zl_RL_166 zm_X10_helped (k_X10_helped (d := d - 1) (by omega) gq285) (by omega) zb_67 (by rw [zk_67]; rfl) rfl rfl (Nat.le_of_ble_eq_true rfl) (Nat.le_refl _) rfl dL_law_1431 ?_
        show J 1434 [(0, .retAddr b), (1, .ref 0), (2, .ref 67), (3, .int a3)] [.int q285.1, .int q284.1] 117 zRF q285.2
        refine zv_icmp_eq (tgt := 1462) X dL_law_1434 (by decide) (fun c286 => ?_) (fun c286 => ?_)
        · replace e := zit e c286
          exact k_law_L1462 q hd X XX ih _ _ e
        · replace e := zif e c286
          refine zv_iconst (v := (0 : Int32)) X dL_law_1437 zic_0 ?_
          exact zv_retZ X e rfl zbo_0 dL_law_1438
      replace e := zif e c283
      by_cases c287 : v3 = (36 : Int32)
      · replace e := zit e c287
        refine zv_tabIn (off := 1406) (tgt := 1439) X dL_law_33 (by rw [c287]; decide) (by rw [c287]; decide) (by rw [c287]; decide) (by decide) ?_
        refine zv_aload_n X dL_law_1439 rfl rfl ?_
        refine zv_xload_n X dL_law_1440 rfl rfl ?_
        refine zv_iload_n X dL_law_1441 rfl rfl ?_
        refine zv_iconst (v := (1 : Int32)) X dL_law_1442 zic_1 ?_
        refine zv_iadd X dL_law_1443 ?_
        refine zb e (fun v288 gv288 e => ?_)
        refine zv_xald XX dL_law_1444 gv288 ?_
        refine zb e (fun q289 gq289 e => ?_)
        refine zv_callV (stk := [.int v288, .ref 0]) (as := [.int v288]) (st := []) (k := 0) X zl_RL_167 zm_X9_count (k_X9_count (d := d - 1) (by omega) gq289) (by omega) zb_0 (by rw [zk_0]; rfl) rfl rfl (Nat.le_of_ble_eq_true rfl) (Nat.le_refl _) rfl dL_law_1445 ?_
        show J 1448 [(0, .retAddr b), (1, .ref 0), (2, .ref 67), (3, .int a3)] [.int q289.1] 117 zRF q289.2
        refine zv_aload_n X dL_law_1448 rfl rfl ?_
        refine zv_xload_n X dL_law_1449 rfl rfl ?_
        refine zv_iload_n X dL_law_1450 rfl rfl ?_
        refine zv_iconst (v := (1 : Int32)) X dL_law_1451 zic_1 ?_
        refine zv_iadd X dL_law_1452 ?_
        refine zb e (fun v290 gv290 e => ?_)
        refine zv_xald XX dL_law_1453 gv290 ?_
        refine zb e (fun q291 gq291 e => ?_)
        refine zv_callV (stk := [.int v290, .ref 67, .int q289.1]) (as := [.int v290]) (st := [.int q289.1]) (k := 67) X zl_RL_170 zm_X10_count (k_X10_count (d := d - 1) (by omega) gq291) (by omega) zb_67 (by rw [zk_67]; rfl) rfl rfl (Nat.le_of_ble_eq_true rfl) (Nat.le_refl _) rfl dL_law_1454 ?_
        show J 1457 [(0, .retAddr b), (1, .ref 0), (2, .ref 67), (3, .int a3)] [.int q291.1, .int q289.1] 117 zRF q291.2
        refine zv_icmp_eq (tgt := 1462) X dL_law_1457 (by decide) (fun c292 => ?_) (fun c292 => ?_)
        · replace e := zit e c292
          exact k_law_L1462 q hd X XX ih _ _ e
        · replace e := zif e c292
          refine zv_iconst (v := (0 : Int32)) X dL_law_1460 zic_0 ?_
          exact zv_retZ X e rfl zbo_0 dL_law_1461
      replace e := zif e c287
      refine zv_tabOut (tgt := 1462) X dL_law_33 (by have := lv_neT (a := 0) c4 (by decide); have := lv_neT (a := 1) c10 (by decide); have := lv_neT (a := 2) c20 (by decide); have := lv_neT (a := 3) c30 (by decide); have := lv_neT (a := 4) c38 (by decide); have := lv_neT (a := 5) c46 (by decide); have := lv_neT (a := 6) c60 (by decide); have := lv_neT (a := 7) c64 (by decide); have := lv_neT (a := 8) c69 (by decide); have := lv_neT (a := 9) c79 (by decide); have := lv_neT (a := 10) c87 (by decide); have := lv_neT (a := 11) c93 (by decide); have := lv_neT (a := 12) c101 (by decide); have := lv_neT (a := 13) c115 (by decide); have := lv_neT (a := 14) c125 (by decide); have := lv_neT (a := 15) c133 (by decide); have := lv_neT (a := 16) c137 (by decide); have := lv_neT (a := 17) c145 (by decide); have := lv_neT (a := 18) c153 (by decide); have := lv_neT (a := 19) c161 (by decide); have := lv_neT (a := 20) c167 (by decide); have := lv_neT (a := 21) c173 (by decide); have := lv_neT (a := 22) c183 (by decide); have := lv_neT (a := 23) c187 (by decide); have := lv_neT (a := 24) c195 (by decide); have := lv_neT (a := 25) c203 (by decide); have := lv_neT (a := 26) c207 (by decide); have := lv_neT (a := 27) c217 (by decide); have := lv_neT (a := 28) c227 (by decide); have := lv_neT (a := 29) c239 (by decide); have := lv_neT (a := 30) c249 (by decide); have := lv_neT (a := 31) c255 (by decide); have := lv_neT (a := 32) c263 (by decide); have := lv_neT (a := 33) c273 (by decide); have := lv_neT (a := 34) c279 (by decide); have := lv_neT (a := 35) c283 (by decide); have := lv_neT (a := 36) c287 (by decide); omega) (by decide) ?_
      exact k_law_L1462 q hd X XX ih _ _ e

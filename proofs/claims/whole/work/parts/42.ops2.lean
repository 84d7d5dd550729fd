theorem zm67 (h : zHp) (k : Nat) : (zr1 h k).1 67 = h.1 67 := rfl
theorem nIm1 {j : Nat} (hj : j < 2 ^ 31) : ¬ nI j = -1 := by
  intro e
  have := congrArg Int32.toInt e
  rw [nI_toInt hj] at this
  have e2 : (-1 : Int32).toInt = -1 := by decide
  omega
theorem zge0 {j : Nat} (hj : j < 2 ^ 31) : (0 : Int32) ≤ nI j := nI_pos' hj
theorem zm1lt : (-1 : Int32) < 0 := by decide
theorem zm1ge : ¬ (0 : Int32) ≤ -1 := by decide
theorem e_X0_turned0 {h : zHp} {i : Nat} (hi : i < 40) (e : h.1 10 i = -1) : s_X0_isTurned (nI i) h = some (0, h) := by
  simp only [s_X0_isTurned, s_X0_isTurned_L15, zriA hi (by decide : 40 < 2 ^ 31), Option.bind_some, e, reduceIte, zbo0]
theorem e_X0_turned1 {h : zHp} {i : Nat} (hi : i < 40) (e : ¬ h.1 10 i = -1) : s_X0_isTurned (nI i) h = some (1, h) := by
  simp only [s_X0_isTurned, s_X0_isTurned_L15, zriA hi (by decide : 40 < 2 ^ 31), Option.bind_some, e, reduceIte, zbo1]
theorem op_turn (a1 a2 a3 : Int32) {h : zHp} (hI : zI h) : zop (s_X9_turn a1 a2 a3) (s_X10_turn a1 a2 a3) h := by
  have hI0 := hI
  obtain ⟨t, nc, nk, nl, nt, np, ⟨d1, d2, d3⟩, ⟨⟨k1, k2, k3⟩, ⟨x1, x2, x3, x4, x5⟩, y1, y2, y3, y4, y5⟩, h3, h4, h5, h6, h7, h8, h9⟩ := hI
  rcases zix a1 (n := nc) (by omega) with ⟨hc, hc'⟩ | ⟨i, hi, rfl, i1, i2, i3⟩
  · refine zop_r1 hI0 ?_ ?_
    · simp only [s_X9_turn, s_X9_turn_L22, e_hX00 (by rw [k1]; exact hc), Option.bind_some, reduceIte, zbq]
    · simp only [s_X10_turn, s_X10_turn_L16, e_isCode0 (h := zr1 h 1) (by rw [zm67, k2]; exact hc'), Option.bind_some, reduceIte, zbq]
  · have w1 : s_X0_has (nI i) h = some (1, h) := e_hX01 i1 (by rw [k1]; exact i2)
    have v1 : ∀ h' : zHp, h'.1 67 1 = nI nc → s_X10_isCode (nI i) h' = some (1, h') := fun h' e => e_isCode1 i1 (by rw [e]; exact i3)
    rcases zix a2 (n := nc) (by omega) with ⟨hc, hc'⟩ | ⟨j, hj, rfl, j1, j2, j3⟩
    · refine zop_r1 hI0 ?_ ?_
      · simp only [s_X9_turn, s_X9_turn_L22, w1, e_hX00 (by rw [k1]; exact hc), Option.bind_some, reduceIte, zbq, z10]
      · simp only [s_X10_turn, s_X10_turn_L16, v1 (zr1 h 1) k2, e_isCode0 (h := zr1 h 1) (by rw [zm67, k2]; exact hc'), Option.bind_some, reduceIte, zbq, z10]
    · have w2 : s_X0_has (nI j) h = some (1, h) := e_hX01 j1 (by rw [k1]; exact j2)
      have v2 : ∀ h' : zHp, h'.1 67 1 = nI nc → s_X10_isCode (nI j) h' = some (1, h') := fun h' e => e_isCode1 j1 (by rw [e]; exact j3)
      have r71 : ∀ h' : zHp, zri h' 71 40 (nI i) = some (h'.1 71 i) := fun h' => zri_ok (by omega) (by decide)
      obtain ⟨z1, z2⟩ := y3 i hi
      by_cases ct : h.1 10 i = -1
      · have w3 := e_X0_turned0 (h := h) (i := i) (by omega) ct
        have m3 : h.1 71 i = -1 := z1.trans ct
        by_cases c1 : nI i < nI j
        · by_cases c2 : nI t ≤ a3
          · by_cases c3 : a3 ≤ 1500
            · refine zop_ok (r := 1) (h1 := zwi (zwi h 10 i (nI j)) 11 i a3) (h2 := zwi (zwi (zwi (zwi h 10 i (nI j)) 11 i a3) 71 i (nI j)) 72 i a3) ?_ ?_ ?_
              · simp only [s_X9_turn, s_X0_turnInto, w1, w2, w3, Option.bind_some, reduceIte, z10, c1, d1, c2, c3, zuiA (show i < 40 by omega) (by decide : 40 < 2 ^ 31)]
              · simp only [s_X10_turn, v1 (zwi (zwi h 10 i (nI j)) 11 i a3) k2, v2 (zwi (zwi h 10 i (nI j)) 11 i a3) k2, r71, show (zwi (zwi h 10 i (nI j)) 11 i a3).1 71 i = -1 from m3, show (zwi (zwi h 10 i (nI j)) 11 i a3).1 67 0 = nI t from d2, Option.bind_some, reduceIte, z10, zm1ge, c1, c2, c3, zuiA (show i < 40 by omega) (by decide : 40 < 2 ^ 31)]
              · refine ⟨t, nc, nk, nl, nt, np, ⟨d1, d2, d3⟩, ⟨⟨k1, k2, k3⟩, ⟨x1, x2, x3, ?_, x5⟩, y1, y2, ?_, ?_, y5⟩, h3, h4, h5, h6, h7, h8, h9⟩
                · show upd (h.1 11) i a3 = upd (h.1 72) i a3
                  rw [x4]
                · intro i' hi'
                  show upd (h.1 71) i (nI j) i' = upd (h.1 10) i (nI j) i' ∧ (upd (h.1 10) i (nI j) i' = -1 ∨ ∃ j', i' < j' ∧ j' < nc ∧ upd (h.1 10) i (nI j) i' = nI j')
                  by_cases e : i' = i
                  · subst e
                    rw [pk_us, pk_us]
                    exact ⟨rfl, Or.inr ⟨j, (nI_ltI (by omega) (by omega)).mp c1, hj, rfl⟩⟩
                  · rw [pk_un e, pk_un e]; exact y3 i' hi'
                · intro i' hi' hi2
                  show upd (h.1 10) i (nI j) i' = -1
                  rw [pk_un (by omega)]; exact y4 i' hi' hi2
            · refine zop_r6 hI0 ?_ ?_
              · simp only [s_X9_turn, w1, w2, w3, Option.bind_some, reduceIte, z10, c1, d1, c2, c3, zbq]
              · simp only [s_X10_turn, v1 (zr1 h 6) k2, v2 (zr1 h 6) k2, r71, show (zr1 h 6).1 71 i = -1 from m3, zm67, d2, Option.bind_some, reduceIte, z10, zm1ge, c1, c2, c3, zbq]
          · refine zop_r4 hI0 ?_ ?_
            · simp only [s_X9_turn, w1, w2, w3, Option.bind_some, reduceIte, z10, c1, d1, c2, zbq]
            · simp only [s_X10_turn, v1 (zr1 h 4) k2, v2 (zr1 h 4) k2, r71, show (zr1 h 4).1 71 i = -1 from m3, zm67, d2, Option.bind_some, reduceIte, z10, zm1ge, c1, c2, zbq]
        · refine zop_r3 hI0 ?_ ?_
          · simp only [s_X9_turn, s_X9_turn_L44, w1, w2, w3, Option.bind_some, reduceIte, z10, c1, zbq]
          · simp only [s_X10_turn, s_X10_turn_L36, v1 (zr1 h 3) k2, v2 (zr1 h 3) k2, r71, show (zr1 h 3).1 71 i = -1 from m3, Option.bind_some, reduceIte, z10, zm1ge, c1, zbq]
      · have w3 := e_X0_turned1 (h := h) (i := i) (by omega) ct
        obtain ⟨j', q1, q2, q3⟩ := z2.resolve_left ct
        have m3 : h.1 71 i = nI j' := z1.trans q3
        refine zop_r3 hI0 ?_ ?_
        · simp only [s_X9_turn, s_X9_turn_L44, w1, w2, w3, Option.bind_some, reduceIte, z10, zbq]
        · simp only [s_X10_turn, s_X10_turn_L36, v1 (zr1 h 3) k2, v2 (zr1 h 3) k2, r71, show (zr1 h 3).1 71 i = nI j' from m3, Option.bind_some, reduceIte, z10, zge0 (show j' < 2 ^ 31 by omega), zbq]
theorem op_most (a1 a2 : Int32) {h : zHp} (hI : zI h) : zop (s_X9_most a1 a2) (s_X10_most a1 a2) h := by
  have hI0 := hI
  obtain ⟨t, nc, nk, nl, nt, np, h1, ⟨⟨k1, k2, k3⟩, ⟨x1, x2, x3, x4, x5⟩, y1, y2, y3, y4, y5⟩, h3, h4, h5, h6, h7, h8, h9⟩ := hI
  rcases zix a1 (n := 5) (by decide) with ⟨hc, hc'⟩ | ⟨g, hg, rfl, g1, g2, g3⟩
  · refine zop_r1 hI0 ?_ ?_
    · simp only [s_X9_most, e_wi0 (b := 5) hc, Option.bind_some, reduceIte, zbq]
    · simp only [s_X10_most, e_in0 (b := 0) (c := 4) hc', Option.bind_some, reduceIte, zbq]
  · have w1 : ∀ h', s_X9_isWithin (nI g) 5 h' = some (1, h') := fun h' => e_wi1 g1 g2
    have w2 : ∀ h', s_X10_in (nI g) 0 4 h' = some (1, h') := fun h' => e_in1 g1 g3
    by_cases c1 : 0 ≤ a2
    · by_cases c2 : a2 ≤ 200
      · refine zop_ok (r := h.1 12 g) (h1 := zwi h 12 g a2) (h2 := zwi (zwi h 12 g a2) 73 g a2) ?_ ?_ ?_
        · simp only [s_X9_most, s_X0_changeMost, w1, Option.bind_some, reduceIte, z10, c1, c2, zuiA hg (by decide : 5 < 2 ^ 31), zriA hg (by decide : 5 < 2 ^ 31)]
        · simp only [s_X10_most, w2, Option.bind_some, reduceIte, z10, c1, c2, zuiA hg (by decide : 5 < 2 ^ 31), zriA hg (by decide : 5 < 2 ^ 31)]
          rw [show (zwi h 12 g a2).1 73 g = h.1 12 g from congrFun x5.symm g]
        · refine ⟨t, nc, nk, nl, nt, np, h1, ⟨⟨k1, k2, k3⟩, ⟨x1, x2, x3, x4, ?_⟩, y1, y2, y3, y4, ?_⟩, h3, h4, h5, h6, h7, h8, h9⟩
          · show upd (h.1 12) g a2 = upd (h.1 73) g a2
            rw [x5]
          · obtain ⟨p, p1, p2, rfl⟩ : ∃ p, 0 ≤ p ∧ p ≤ 200 ∧ a2 = nI p := by
              rw [Int32.le_iff_toInt_le] at c1 c2
              exact znat (a := 0) (b := 200) c1 c2
            intro i hi
            show ∃ m, m ≤ 200 ∧ upd (h.1 12) g (nI p) i = nI m
            by_cases e : i = g
            · exact ⟨p, p2, by rw [e, pk_us]⟩
            · rw [pk_un e]; exact y5 i hi
      · refine zop_r6 hI0 ?_ ?_
        · simp only [s_X9_most, w1, Option.bind_some, reduceIte, z10, c1, c2, zbq]
        · simp only [s_X10_most, w2, Option.bind_some, reduceIte, z10, c1, c2, zbq]
    · refine zop_r4 hI0 ?_ ?_
      · simp only [s_X9_most, w1, Option.bind_some, reduceIte, z10, c1, zbq]
      · simp only [s_X10_most, w2, Option.bind_some, reduceIte, z10, c1, zbq]
theorem op_base (a1 a2 : Int32) {h : zHp} (hI : zI h) : zop (s_X9_base a1 a2) (s_X10_base a1 a2) h := by
  have hI0 := hI
  obtain ⟨t, nc, nk, nl, nt, np, h1, h2, h3, h4, ⟨x1, x2, x3, x4, x5, x6⟩, h6, h7, h8, h9⟩ := hI
  rcases zix a1 (n := 4) (by decide) with ⟨hc, hc'⟩ | ⟨g, hg, rfl, g1, g2, g3⟩
  · refine zop_r2 hI0 ?_ ?_
    · simp only [s_X9_base, e_wi0 (b := 4) hc, Option.bind_some, reduceIte, zbq]
    · simp only [s_X10_base, e_in0 (b := 0) (c := 3) hc', Option.bind_some, reduceIte, zbq]
  · have w1 : ∀ h', s_X9_isWithin (nI g) 4 h' = some (1, h') := fun h' => e_wi1 g1 g2
    have w2 : ∀ h', s_X10_in (nI g) 0 3 h' = some (1, h') := fun h' => e_in1 g1 g3
    by_cases c1 : 1 ≤ a2
    · by_cases c2 : a2 ≤ 50
      · refine zop_ok (r := h.1 3 g) (h1 := zwi h 3 g a2) (h2 := zwi (zwi h 3 g a2) 92 g a2) ?_ ?_ ?_
        · simp only [s_X9_base, w1, Option.bind_some, reduceIte, z10, c1, c2, zuiA hg (by decide : 4 < 2 ^ 31), zriA hg (by decide : 4 < 2 ^ 31)]
        · simp only [s_X10_base, w2, Option.bind_some, reduceIte, z10, c1, c2, zuiA hg (by decide : 4 < 2 ^ 31), zriA hg (by decide : 4 < 2 ^ 31)]
          rw [show (zwi h 3 g a2).1 92 g = h.1 3 g from congrFun x4.symm g]
        · refine ⟨t, nc, nk, nl, nt, np, h1, h2, h3, h4, ⟨x1, x2, x3, ?_, ?_, x6⟩, h6, h7, h8, h9⟩
          · show upd (h.1 3) g a2 = upd (h.1 92) g a2
            rw [x4]
          · obtain ⟨p, p1, p2, rfl⟩ : ∃ p, 1 ≤ p ∧ p ≤ 50 ∧ a2 = nI p := by
              rw [Int32.le_iff_toInt_le] at c1 c2
              exact znat (a := 1) (b := 50) c1 c2
            intro i hi
            show ∃ m, 1 ≤ m ∧ m ≤ 50 ∧ upd (h.1 3) g (nI p) i = nI m
            by_cases e : i = g
            · exact ⟨p, p1, p2, by rw [e, pk_us]⟩
            · rw [pk_un e]; exact x5 i hi
      · refine zop_r6 hI0 ?_ ?_
        · simp only [s_X9_base, w1, Option.bind_some, reduceIte, z10, c1, c2, zbq]
        · simp only [s_X10_base, w2, Option.bind_some, reduceIte, z10, c1, c2, zbq]
    · refine zop_r4 hI0 ?_ ?_
      · simp only [s_X9_base, w1, Option.bind_some, reduceIte, z10, c1, zbq]
      · simp only [s_X10_base, w2, Option.bind_some, reduceIte, z10, c1, zbq]
theorem op_capacity (a1 : Int32) {h : zHp} (hI : zI h) : zop (s_X9_capacity a1) (s_X10_capacity a1) h := by
  have hI0 := hI
  obtain ⟨t, nc, nk, nl, nt, np, h1, h2, h3, h4, ⟨x1, x2, x3, x4, x5, c, q1, q2, q3, q4⟩, h6, h7, h8, h9⟩ := hI
  by_cases c1 : 1 ≤ a1
  · by_cases c2 : a1 ≤ 9
    · refine zop_ok (r := nI c) (h1 := zwi h 0 15 a1) (h2 := zwi (zwi h 0 15 a1) 67 30 a1) ?_ ?_ ?_
      · simp only [s_X9_capacity, Option.bind_some, reduceIte, c1, c2, zpi, q3]
      · simp only [s_X10_capacity, Option.bind_some, reduceIte, c1, c2, zpi, show (zwi h 0 15 a1).1 67 30 = nI c from q4]
      · obtain ⟨p, p1, p2, rfl⟩ : ∃ p, 1 ≤ p ∧ p ≤ 9 ∧ a1 = nI p := by
          rw [Int32.le_iff_toInt_le] at c1 c2
          exact znat (a := 1) (b := 9) c1 c2
        exact ⟨t, nc, nk, nl, nt, np, h1, h2, h3, h4, ⟨x1, x2, x3, x4, x5, p, p1, p2, rfl, rfl⟩, h6, h7, h8, h9⟩
    · refine zop_r6 hI0 ?_ ?_
      · simp only [s_X9_capacity, Option.bind_some, reduceIte, c1, c2, zbq]
      · simp only [s_X10_capacity, Option.bind_some, reduceIte, c1, c2, zbq]
  · refine zop_r4 hI0 ?_ ?_
    · simp only [s_X9_capacity, Option.bind_some, reduceIte, c1, zbq]
    · simp only [s_X10_capacity, Option.bind_some, reduceIte, c1, zbq]

theorem zix40 {a b : Nat} : nI a * (40 : Int32) + nI b = nI (40 * a + b) ∧ (40 : Int32) * nI a + nI b = nI (40 * a + b) := by
  have e : (40 : Int32) = nI 40 := by decide
  rw [e, pk_mul, pk_mul, nI_add, nI_add]
  exact ⟨by rw [Nat.mul_comm 40 a], rfl⟩
theorem zix12 {a b : Nat} : nI a * (12 : Int32) + nI b = nI (12 * a + b) ∧ (12 : Int32) * nI a + nI b = nI (12 * a + b) := by
  have e : (12 : Int32) = nI 12 := by decide
  rw [e, pk_mul, pk_mul, nI_add, nI_add]
  exact ⟨by rw [Nat.mul_comm 12 a], rfl⟩
theorem zix8 {a b : Nat} : nI a * (8 : Int32) + nI b = nI (8 * a + b) ∧ (8 : Int32) * nI a + nI b = nI (8 * a + b) := by
  have e : (8 : Int32) = nI 8 := by decide
  rw [e, pk_mul, pk_mul, nI_add, nI_add]
  exact ⟨by rw [Nat.mul_comm 8 a], rfl⟩
theorem op_find (a1 a2 : Int32) {h : zHp} (hI : zI h) : zop (s_X9_find a1 a2) (s_X10_find a1 a2) h := by
  have hI0 := hI
  obtain ⟨t, nc, nk, nl, nt, np, ⟨d1, d2, d3⟩, ⟨⟨k1, k2, k3⟩, ⟨x1, x2, x3, x4, x5⟩, y1, y2, y3, y4, y5⟩, h3, h4, h5, ⟨⟨l1, l2, l3⟩, ⟨u1, u2, u3, u4, u5⟩, v1, v2, v3, v4⟩, h7, h8, h9⟩ := hI
  rcases zix a1 (n := nc) (by omega) with ⟨hc, hc'⟩ | ⟨i, hi, rfl, i1, i2, i3⟩
  · refine zop_r1 hI0 ?_ ?_
    · simp only [s_X9_find, e_hX00 (by rw [k1]; exact hc), Option.bind_some, reduceIte, zbq]
    · simp only [s_X10_find, e_isCode0 (h := zr1 h 1) (by rw [zm67, k2]; exact hc'), Option.bind_some, reduceIte, zbq]
  have w1 : s_X0_has (nI i) h = some (1, h) := e_hX01 i1 (by rw [k1]; exact i2)
  have r1 : ∀ h' : zHp, h'.1 67 1 = nI nc → s_X10_isCode (nI i) h' = some (1, h') := fun h' e => e_isCode1 i1 (by rw [e]; exact i3)
  have w2 : s_X5_size h = some (nI nl, h) := by simp only [s_X5_size, l1]
  cases nl with
  | zero =>
    refine zop_r3 hI0 ?_ ?_
    · simp only [s_X9_find, s_X9_find_L49, w1, w2, Option.bind_some, reduceIte, zbq, z10, e_hX50 (h := h) (a := nI 0 - 1) (Or.inl (by decide))]
    · simp only [s_X10_find, s_X10_find_L55, r1 (zr1 h 3) k2, Option.bind_some, reduceIte, zbq, z10, show (zr1 h 3).1 67 17 = 0 from l2]
  | succ nl =>
    have ep : nI (nl + 1) - 1 = nI nl := nI_pred nl
    have hl80 : nl < 80 := by omega
    have hi40 : i < 40 := by omega
    have w3 : s_X5_has (nI nl) h = some (1, h) := e_hX51 (nI_pos (by omega)) (by rw [l1]; exact nI_ge (by omega) (by omega))
    have n0 : ¬ nI (nl + 1) = 0 := nI_ne0 (by omega) (by omega)
    have z80 : ∀ (h' : zHp) (k : Nat), zri h' k 80 (nI nl) = some (h'.1 k nl) := fun h' k => zri_ok hl80 (by decide)
    have z40 : ∀ (h' : zHp) (k : Nat), zri h' k 40 (nI i) = some (h'.1 k i) := fun h' k => zri_ok hi40 (by decide)
    obtain ⟨p1, p2, ⟨dd, dd1, dd2⟩, p4, p5⟩ := v1 nl (by omega)
    have e84 : h.1 84 nl = nI dd := (congrFun u3.symm nl).trans dd2
    have e70 : h.1 70 i = h.1 9 i := congrFun x3.symm i
    have w5 : s_X5_dayOf (nI nl) h = some (nI dd, h) := by simp only [s_X5_dayOf, z80, Option.bind_some, dd2]
    rcases p5 with ⟨b1, b2⟩ | ⟨b, b0, b1, b2⟩
    · have w4 := e_taken0 (h := h) hl80 b1
      by_cases c1 : h.1 9 i ≤ nI dd
      · have c1' : ¬ nI dd < h.1 9 i := by
          rw [Int32.le_iff_toInt_le] at c1; rw [Int32.lt_iff_toInt_lt]; omega
        have w6 : s_X0_isInForce (nI i) (nI dd) h = some (1, h) := by simp only [s_X0_isInForce, s_X0_isInForce_L15, z40, Option.bind_some, c1', reduceIte, zbo1]
        by_cases c2 : 1 ≤ a2
        · by_cases c3 : (9 : Int32) < a2
          · refine zop_r6 hI0 ?_ ?_
            · simp only [s_X9_find, s_X9_find_L116, w1, w2, ep, w3, w4, w5, w6, Option.bind_some, reduceIte, zbq, z10, c2, c3]
            · simp only [s_X10_find, s_X10_find_L105, r1 (zr1 h 6) k2, Option.bind_some, reduceIte, zbq, z10, show (zr1 h 6).1 67 17 = nI (nl + 1) from l2, n0, ep, z80, z40, show (zr1 h 6).1 86 nl = -1 from b2, zm1ge, show (zr1 h 6).1 70 i = h.1 9 i from e70, show (zr1 h 6).1 84 nl = nI dd from e84, c1, c2, c3]
          · obtain ⟨m, mm1, mm2, rfl⟩ : ∃ p, 1 ≤ p ∧ p ≤ 9 ∧ a2 = nI p := by
              rw [Int32.lt_iff_toInt_lt] at c3
              rw [Int32.le_iff_toInt_le] at c2
              have e2 : (9 : Int32).toInt = 9 := by decide
              exact znat (a := 1) (b := 9) c2 (by omega)
            have hr : 40 * nl + i < 3200 := by omega
            have z32 : ∀ (h' : zHp) (k : Nat), zri h' k 3200 (nI (40 * nl + i)) = some (h'.1 k (40 * nl + i)) := fun h' k => zri_ok hr (by decide)
            obtain ⟨f, f1, f2⟩ := v3 (40 * nl + i) hr
            have e87 : h.1 87 (40 * nl + i) = nI f := (congrFun u5.symm _).trans f2
            have w7 : s_X5_timesFound (nI nl) (nI i) h = some (nI f, h) := by simp only [s_X5_timesFound, (zix40 (a := nl) (b := i)).1, z32, Option.bind_some, f2]
            have ef : (99 : Int32) - nI f = nI (99 - f) := by
              rw [show (99 : Int32) = nI 99 from by decide, pk_sub (by omega)]
            by_cases c4 : m ≤ 99 - f
            · have c4a : nI m ≤ nI (99 - f) := nI_le c4 (by omega)
              have c4b : nI f + nI m ≤ 99 := by rw [nI_add]; exact nI_le (b := 99) (by omega) (by decide)
              refine zop_ok (r := nI (f + m)) (h1 := zwi h 30 (40 * nl + i) (nI (f + m))) (h2 := zwi (zwi h 30 (40 * nl + i) (nI (f + m))) 87 (40 * nl + i) (nI (f + m))) ?_ ?_ ?_
              · simp only [s_X9_find, s_X5_addFound, w1, w2, ep, w3, w4, w5, w6, w7, Option.bind_some, reduceIte, zbq, z10, c2, c3, ef, c4a, (zix40 (a := nl) (b := i)).1, z32, f2, nI_add, zuiA hr (by decide : 3200 < 2 ^ 31), zrd, zud]
              · simp only [s_X10_find, r1 (zwi h 30 (40 * nl + i) (nI (f + m))) k2, Option.bind_some, reduceIte, z10, show (zwi h 30 (40 * nl + i) (nI (f + m))).1 67 17 = nI (nl + 1) from l2, n0, ep, z80, z40, show (zwi h 30 (40 * nl + i) (nI (f + m))).1 86 nl = -1 from b2, zm1ge, show (zwi h 30 (40 * nl + i) (nI (f + m))).1 70 i = h.1 9 i from e70, show (zwi h 30 (40 * nl + i) (nI (f + m))).1 84 nl = nI dd from e84, c1, c2, c3, (zix40 (a := nl) (b := i)).2, z32, show (zwi h 30 (40 * nl + i) (nI (f + m))).1 87 (40 * nl + i) = nI f from e87, c4b, zuiA hr (by decide : 3200 < 2 ^ 31), zrd, zud]
                simp only [nI_add, reduceIte]
              · refine ⟨t, nc, nk, nl + 1, nt, np, ⟨d1, d2, d3⟩, ⟨⟨k1, k2, k3⟩, ⟨x1, x2, x3, x4, x5⟩, y1, y2, y3, y4, y5⟩, h3, h4, h5, ⟨⟨l1, l2, l3⟩, ⟨u1, u2, u3, u4, ?_⟩, v1, v2, ?_, v4⟩, h7, h8, h9⟩
                · show upd (h.1 30) _ _ = upd (h.1 87) _ _
                  rw [u5]
                · intro r hr'
                  show ∃ f', f' ≤ 99 ∧ upd (h.1 30) (40 * nl + i) (nI (f + m)) r = nI f'
                  by_cases e : r = 40 * nl + i
                  · exact ⟨f + m, by omega, by rw [e, pk_us]⟩
                  · rw [pk_un e]; exact v3 r hr'
            · have c4a : ¬ nI m ≤ nI (99 - f) := nI_ge (by omega) (by omega)
              have c4b : ¬ nI f + nI m ≤ 99 := by rw [nI_add]; exact nI_ge (a := 99) (by omega) (by omega)
              refine zop_r6 hI0 ?_ ?_
              · simp only [s_X9_find, s_X9_find_L116, w1, w2, ep, w3, w4, w5, w6, w7, Option.bind_some, reduceIte, zbq, z10, c2, c3, ef, c4a]
              · simp only [s_X10_find, s_X10_find_L105, r1 (zr1 h 6) k2, Option.bind_some, reduceIte, zbq, z10, show (zr1 h 6).1 67 17 = nI (nl + 1) from l2, n0, ep, z80, z40, show (zr1 h 6).1 86 nl = -1 from b2, zm1ge, show (zr1 h 6).1 70 i = h.1 9 i from e70, show (zr1 h 6).1 84 nl = nI dd from e84, c1, c2, c3, (zix40 (a := nl) (b := i)).2, z32, show (zr1 h 6).1 87 (40 * nl + i) = nI f from e87, c4b]
        · refine zop_r4 hI0 ?_ ?_
          · simp only [s_X9_find, w1, w2, ep, w3, w4, w5, w6, Option.bind_some, reduceIte, zbq, z10, c2]
          · simp only [s_X10_find, r1 (zr1 h 4) k2, Option.bind_some, reduceIte, zbq, z10, show (zr1 h 4).1 67 17 = nI (nl + 1) from l2, n0, ep, z80, z40, show (zr1 h 4).1 86 nl = -1 from b2, zm1ge, show (zr1 h 4).1 70 i = h.1 9 i from e70, show (zr1 h 4).1 84 nl = nI dd from e84, c1, c2]
      · have c1' : nI dd < h.1 9 i := by
          rw [Int32.le_iff_toInt_le] at c1; rw [Int32.lt_iff_toInt_lt]; omega
        have w6 : s_X0_isInForce (nI i) (nI dd) h = some (0, h) := by simp only [s_X0_isInForce, s_X0_isInForce_L15, z40, Option.bind_some, c1', reduceIte, zbo0]
        refine zop_r3 hI0 ?_ ?_
        · simp only [s_X9_find, w1, w2, ep, w3, w4, w5, w6, Option.bind_some, reduceIte, zbq, z10]
        · simp only [s_X10_find, s_X10_find_L55, r1 (zr1 h 3) k2, Option.bind_some, reduceIte, zbq, z10, show (zr1 h 3).1 67 17 = nI (nl + 1) from l2, n0, ep, z80, z40, show (zr1 h 3).1 86 nl = -1 from b2, zm1ge, show (zr1 h 3).1 70 i = h.1 9 i from e70, show (zr1 h 3).1 84 nl = nI dd from e84, c1]
    · have w4 := e_taken1 (h := h) hl80 (show b ≤ 1500 by omega) b1
      refine zop_r3 hI0 ?_ ?_
      · simp only [s_X9_find, s_X9_find_L49, w1, w2, ep, w3, w4, Option.bind_some, reduceIte, zbq, z10]
      · simp only [s_X10_find, s_X10_find_L55, r1 (zr1 h 3) k2, Option.bind_some, reduceIte, zbq, z10, show (zr1 h 3).1 67 17 = nI (nl + 1) from l2, n0, ep, z80, show (zr1 h 3).1 86 nl = nI b from b2, zge0 (show b < 2 ^ 31 by omega)]
theorem e_X6_full0 {h : zHp} {n : Nat} (hn : h.1 32 2 = nI n) (hlt : n < 10) : s_X6_isFull h = some (0, h) := by
  unfold s_X6_isFull s_X6_isFull_L14
  rw [hn, if_pos (show nI n < 10 from nI_lt (b := 10) hlt (by decide)), zbs zbo0]
theorem e_X6_full1 {h : zHp} (hn : h.1 32 2 = nI 10) : s_X6_isFull h = some (1, h) := by
  unfold s_X6_isFull s_X6_isFull_L14
  rw [hn, if_neg (by decide), zbs zbo1]
def ztA (h : zHp) (n : Nat) (a1 a2 a3 a4 a5 : Int32) : zHp := zwi (zwi (zwi (zwi (zwi (zwi h 33 n a1) 34 (4 * n) a2) 34 (4 * n + 1) a3) 34 (4 * n + 2) a4) 34 (4 * n + 3) a5) 32 2 (nI (n + 1))
def ztB (h : zHp) (n : Nat) (a1 a2 a3 a4 a5 : Int32) : zHp := zwi (zwi (zwi (zwi (zwi (zwi h 90 n a1) 91 (4 * n) a2) 91 (4 * n + 1) a3) 91 (4 * n + 2) a4) 91 (4 * n + 3) a5) 67 26 (nI (n + 1))
theorem zix4 (n : Nat) : nI n * (4 : Int32) = nI (4 * n) ∧ (4 : Int32) * nI n = nI (4 * n) ∧ nI (4 * n) + 1 = nI (4 * n + 1) ∧ nI (4 * n) + 2 = nI (4 * n + 2) ∧ nI (4 * n) + 3 = nI (4 * n + 3) := by
  have e : (4 : Int32) = nI 4 := by decide
  have e2 : (2 : Int32) = nI 2 := by decide
  have e3 : (3 : Int32) = nI 3 := by decide
  rw [e, e2, e3, pk_mul, pk_mul, nI_1, nI_add, nI_add, Nat.mul_comm n 4]
  exact ⟨rfl, rfl, rfl, rfl, rfl⟩
theorem e_X6_add {h : zHp} {n : Nat} {a1 a2 a3 a4 a5 : Int32} (hn : h.1 32 2 = nI n) (hlt : n < 10) : s_X6_add a1 a2 a3 a4 a5 h = some (nI n, ztA h n a1 a2 a3 a4 a5) := by
  obtain ⟨q1, q2, q3, q4, q5⟩ := zix4 n
  simp only [s_X6_add, hn, q1, q3, q4, q5, zuiA hlt (by decide : 10 < 2 ^ 31), zuiA (show 4 * n < 40 by omega) (by decide : 40 < 2 ^ 31), zuiA (show 4 * n + 1 < 40 by omega) (by decide : 40 < 2 ^ 31), zuiA (show 4 * n + 2 < 40 by omega) (by decide : 40 < 2 ^ 31), zuiA (show 4 * n + 3 < 40 by omega) (by decide : 40 < 2 ^ 31), zrd, Nat.reduceEqDiff, reduceIte, Option.bind_some, zpi, nI_1, ztA]
theorem op_table (a1 a2 a3 a4 a5 : Int32) {h : zHp} (hI : zI h) : zop (s_X9_table a1 a2 a3 a4 a5) (s_X10_table a1 a2 a3 a4 a5) h := by
  have hI0 := hI
  obtain ⟨t, nc, nk, nl, nt, np, ⟨d1, d2, d3⟩, h2, h3, h4, h5, h6, ⟨⟨k1, k2, k3⟩, ⟨x1, x2⟩, y1⟩, h8, h9⟩ := hI
  by_cases c1 : a1 < nI t
  · refine zop_r4 hI0 ?_ ?_
    · simp only [s_X9_table, s_X9_table_L30, d1, c1, reduceIte, zbq]
    · simp only [s_X10_table, s_X10_table_L30, zm67, d2, c1, reduceIte, zbq]
  by_cases c2 : a2 < 0
  · refine zop_r4 hI0 ?_ ?_
    · simp only [s_X9_table, s_X9_table_L30, d1, c1, c2, reduceIte, zbq]
    · simp only [s_X10_table, s_X10_table_L30, zm67, d2, c1, c2, reduceIte, zbq]
  by_cases c3 : a3 < a2
  · refine zop_r4 hI0 ?_ ?_
    · simp only [s_X9_table, s_X9_table_L30, d1, c1, c2, c3, reduceIte, zbq]
    · simp only [s_X10_table, s_X10_table_L30, zm67, d2, c1, c2, c3, reduceIte, zbq]
  by_cases c4 : a4 < a3
  · refine zop_r4 hI0 ?_ ?_
    · simp only [s_X9_table, s_X9_table_L30, d1, c1, c2, c3, c4, reduceIte, zbq]
    · simp only [s_X10_table, s_X10_table_L30, zm67, d2, c1, c2, c3, c4, reduceIte, zbq]
  by_cases c5 : a4 ≤ a5
  · by_cases c6 : (1500 : Int32) < a1
    · refine zop_r6 hI0 ?_ ?_
      · simp only [s_X9_table, s_X9_table_L62, d1, c1, c2, c3, c4, c5, c6, reduceIte, zbq]
      · simp only [s_X10_table, s_X10_table_L61, zm67, d2, c1, c2, c3, c4, c5, c6, reduceIte, zbq]
    by_cases c7 : (999 : Int32) < a5
    · refine zop_r6 hI0 ?_ ?_
      · simp only [s_X9_table, s_X9_table_L62, d1, c1, c2, c3, c4, c5, c6, c7, reduceIte, zbq]
      · simp only [s_X10_table, s_X10_table_L61, zm67, d2, c1, c2, c3, c4, c5, c6, c7, reduceIte, zbq]
    by_cases c8 : nt = 10
    · subst c8
      refine zop_r6 hI0 ?_ ?_
      · simp only [s_X9_table, s_X9_table_L62, d1, c1, c2, c3, c4, c5, c6, c7, reduceIte, zbq, e_X6_full1 k1, Option.bind_some, z10]
      · simp only [s_X10_table, s_X10_table_L61, d2, c1, c2, c3, c4, c5, c6, c7, reduceIte, zbq, show (zr1 h 6).1 67 26 = 10 from k2, show (zr1 h 6).1 67 0 = nI t from d2]
    have hlt : nt < 10 := by omega
    have c8' : ¬ nI nt = 10 := fun z => c8 ((nI_eq (b := 10) (by omega) (by decide)).mp z)
    refine zop_ok (r := nI nt) (h1 := ztA h nt a1 a2 a3 a4 a5) (h2 := ztB (ztA h nt a1 a2 a3 a4 a5) nt a1 a2 a3 a4 a5) ?_ ?_ ?_
    · simp only [s_X9_table, d1, c1, c2, c3, c4, c5, c6, c7, reduceIte, e_X6_full0 k1 hlt, e_X6_add k1 hlt, Option.bind_some]
    · obtain ⟨q1, q2, q3, q4, q5⟩ := zix4 nt
      simp only [s_X10_table, show (ztA h nt a1 a2 a3 a4 a5).1 67 0 = nI t from d2, show (ztA h nt a1 a2 a3 a4 a5).1 67 26 = nI nt from k2, c1, c2, c3, c4, c5, c6, c7, c8', reduceIte, Option.bind_some, q2, q3, q4, q5, zuiA hlt (by decide : 10 < 2 ^ 31), zuiA (show 4 * nt < 40 by omega) (by decide : 40 < 2 ^ 31), zuiA (show 4 * nt + 1 < 40 by omega) (by decide : 40 < 2 ^ 31), zuiA (show 4 * nt + 2 < 40 by omega) (by decide : 40 < 2 ^ 31), zuiA (show 4 * nt + 3 < 40 by omega) (by decide : 40 < 2 ^ 31), zrd, Nat.reduceEqDiff, zpi, nI_1, zud, nI_pred, ztB]
    · have e1 : (1500 : Int32).toInt = 1500 := by decide
      have e2 : (999 : Int32).toInt = 999 := by decide
      simp only [Int32.lt_iff_toInt_lt, Int32.le_iff_toInt_le, Int32.toInt_zero, nI_toInt (show t < 2 ^ 31 by omega)] at c1 c2 c3 c4 c5 c6 c7
      obtain ⟨n1, p1, p2, rfl⟩ := znat (x := a1) (a := 0) (b := 1500) (by omega) (by omega)
      obtain ⟨n5, p3, p4, rfl⟩ := znat (x := a5) (a := 0) (b := 999) (by omega) (by omega)
      rw [nI_toInt (by omega)] at c5 c7
      obtain ⟨n4, p5, p6, rfl⟩ := znat (x := a4) (a := 0) (b := n5) (by omega) (by omega)
      rw [nI_toInt (by omega)] at c4 c5
      obtain ⟨n3, p7, p8, rfl⟩ := znat (x := a3) (a := 0) (b := n4) (by omega) (by omega)
      rw [nI_toInt (by omega)] at c3 c4
      obtain ⟨n2, p9, p10, rfl⟩ := znat (x := a2) (a := 0) (b := n3) (by omega) (by omega)
      refine ⟨t, nc, nk, nl, nt + 1, np, ⟨d1, d2, d3⟩, h2, h3, h4, h5, h6, ⟨⟨rfl, rfl, by omega⟩, ⟨?_, ?_⟩, ?_⟩, h8, h9⟩
      · show upd (h.1 33) nt (nI n1) = upd (h.1 90) nt (nI n1)
        rw [x1]
      · show upd (upd (upd (upd (h.1 34) _ _) _ _) _ _) _ _ = upd (upd (upd (upd (h.1 91) _ _) _ _) _ _) _ _
        rw [x2]
      · intro i hi
        show (∃ d, d ≤ 1500 ∧ upd (h.1 33) nt (nI n1) i = nI d) ∧ ∃ a b c d, a ≤ b ∧ b ≤ c ∧ c ≤ d ∧ d ≤ 999 ∧ upd (upd (upd (upd (h.1 34) (4 * nt) (nI n2)) (4 * nt + 1) (nI n3)) (4 * nt + 2) (nI n4)) (4 * nt + 3) (nI n5) (4 * i) = nI a ∧ upd (upd (upd (upd (h.1 34) (4 * nt) (nI n2)) (4 * nt + 1) (nI n3)) (4 * nt + 2) (nI n4)) (4 * nt + 3) (nI n5) (4 * i + 1) = nI b ∧ upd (upd (upd (upd (h.1 34) (4 * nt) (nI n2)) (4 * nt + 1) (nI n3)) (4 * nt + 2) (nI n4)) (4 * nt + 3) (nI n5) (4 * i + 2) = nI c ∧ upd (upd (upd (upd (h.1 34) (4 * nt) (nI n2)) (4 * nt + 1) (nI n3)) (4 * nt + 2) (nI n4)) (4 * nt + 3) (nI n5) (4 * i + 3) = nI d
        by_cases e : i = nt
        · subst e
          refine ⟨⟨n1, p2, pk_us⟩, n2, n3, n4, n5, p10, p8, p6, p4, ?_, ?_, ?_, pk_us⟩
          · rw [pk_un (by omega), pk_un (by omega), pk_un (by omega), pk_us]
          · rw [pk_un (by omega), pk_un (by omega), pk_us]
          · rw [pk_un (by omega), pk_us]
        · obtain ⟨z1, z2⟩ := y1 i (by omega)
          rw [pk_un e]
          refine ⟨z1, ?_⟩
          obtain ⟨a, b, c, d, r1, r2, r3, r4, r5, r6, r7, r8⟩ := z2
          refine ⟨a, b, c, d, r1, r2, r3, r4, ?_, ?_, ?_, ?_⟩
          · rw [pk_un (by omega), pk_un (by omega), pk_un (by omega), pk_un (by omega)]; exact r5
          · rw [pk_un (by omega), pk_un (by omega), pk_un (by omega), pk_un (by omega)]; exact r6
          · rw [pk_un (by omega), pk_un (by omega), pk_un (by omega), pk_un (by omega)]; exact r7
          · rw [pk_un (by omega), pk_un (by omega), pk_un (by omega), pk_un (by omega)]; exact r8
  · refine zop_r4 hI0 ?_ ?_
    · simp only [s_X9_table, s_X9_table_L30, d1, c1, c2, c3, c4, c5, reduceIte, zbq]
    · simp only [s_X10_table, s_X10_table_L30, zm67, d2, c1, c2, c3, c4, c5, reduceIte, zbq]

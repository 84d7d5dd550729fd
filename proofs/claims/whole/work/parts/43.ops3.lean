theorem znar01 {x : Int32} (h : x = 0 ∨ x = 1) : vp_nar .boolean x = x ∧ zbo x = some () := by
  rcases h with rfl | rfl
  · exact ⟨by decide, zbo0⟩
  · exact ⟨by decide, zbo1⟩
theorem e_X4_full0 {h : zHp} {n : Nat} (hn : h.1 13 10 = nI n) (hlt : n < 20) : s_X4_isFull h = some (0, h) := by
  unfold s_X4_isFull s_X4_isFull_L14
  rw [hn, if_pos (show nI n < 20 from nI_lt (b := 20) hlt (by decide)), zbs zbo0]
theorem e_X4_full1 {h : zHp} (hn : h.1 13 10 = nI 20) : s_X4_isFull h = some (1, h) := by
  unfold s_X4_isFull s_X4_isFull_L14
  rw [hn, if_neg (by decide), zbs zbo1]
def zkA (h : zHp) (n : Nat) (a1 a2 a3 a4 a5 : Int32) : zHp := zwi (zwi (zwi (zwi (zwi (zwi h 14 n a1) 15 n a2) 16 n a3) 17 n a4) 18 n a5) 13 10 (nI (n + 1))
def zkB (h : zHp) (n : Nat) (a1 a2 a3 a4 a5 : Int32) : zHp := zwi (zwi (zwi (zwi (zwi (zwi h 74 n a1) 75 n a2) 76 n a3) 77 n a4) 78 n a5) 67 8 (nI (n + 1))
theorem e_X4_add {h : zHp} {n : Nat} {a1 a2 a3 a4 a5 : Int32} (hn : h.1 13 10 = nI n) (hlt : n < 20) : s_X4_add a1 a2 a3 a4 a5 h = some (nI n, zkA h n a1 a2 a3 a4 a5) := by
  simp only [s_X4_add, hn, zuiA hlt (by decide : 20 < 2 ^ 31), zrd, Nat.reduceEqDiff, reduceIte, Option.bind_some, zpi, nI_1, zkA]
theorem op_kitchen (a1 a2 a3 a4 a5 : Int32) {h : zHp} (hI : zI h) : zop (s_X9_kitchen a1 a2 a3 a4 a5) (s_X10_kitchen a1 a2 a3 a4 a5) h := by
  have hI0 := hI
  obtain ⟨t, nc, nk, nl, nt, np, h1, h2, ⟨⟨k1, k2, k3⟩, ⟨x1, x2, x3, x4, x5, x6, x7⟩, y1, y2⟩, h4, h5, h6, h7, h8, h9⟩ := hI
  rcases zix a1 (n := 4) (by decide) with ⟨hc, hc'⟩ | ⟨a, ha, rfl, i1, i2, i3⟩
  · refine zop_r2 hI0 ?_ ?_
    · simp only [s_X9_kitchen, e_wi0 (b := 4) hc, Option.bind_some, reduceIte, zbq]
    · simp only [s_X10_kitchen, e_in0 (b := 0) (c := 3) hc', Option.bind_some, reduceIte, zbq]
  have wa : ∀ h', s_X9_isWithin (nI a) 4 h' = some (1, h') := fun h' => e_wi1 i1 i2
  have va : ∀ h', s_X10_in (nI a) 0 3 h' = some (1, h') := fun h' => e_in1 i1 i3
  rcases zix a2 (n := 6) (by decide) with ⟨hc, hc'⟩ | ⟨b, hb, rfl, i1, i2, i3⟩
  · refine zop_r1 hI0 ?_ ?_
    · simp only [s_X9_kitchen, s_X9_kitchen_L34, wa, e_wi0 (b := 6) hc, Option.bind_some, reduceIte, zbq, z10]
    · simp only [s_X10_kitchen, s_X10_kitchen_L36, va, e_in0 (b := 0) (c := 5) hc', Option.bind_some, reduceIte, zbq, z10]
  have wb : ∀ h', s_X9_isWithin (nI b) 6 h' = some (1, h') := fun h' => e_wi1 i1 i2
  have vb : ∀ h', s_X10_in (nI b) 0 5 h' = some (1, h') := fun h' => e_in1 i1 i3
  rcases zix a4 (n := 10) (by decide) with ⟨hc, hc'⟩ | ⟨c, hcc, rfl, i1, i2, i3⟩
  · refine zop_r1 hI0 ?_ ?_
    · simp only [s_X9_kitchen, s_X9_kitchen_L34, wa, wb, e_wi0 (b := 10) hc, Option.bind_some, reduceIte, zbq, z10]
    · simp only [s_X10_kitchen, s_X10_kitchen_L36, va, vb, e_in0 (b := 0) (c := 9) hc', Option.bind_some, reduceIte, zbq, z10]
  have wc : ∀ h', s_X9_isWithin (nI c) 10 h' = some (1, h') := fun h' => e_wi1 i1 i2
  have vc : ∀ h', s_X10_in (nI c) 0 9 h' = some (1, h') := fun h' => e_in1 i1 i3
  by_cases c1 : a3 < 1
  · refine zop_r4 hI0 ?_ ?_
    · simp only [s_X9_kitchen, s_X9_kitchen_L50, wa, wb, wc, Option.bind_some, reduceIte, zbq, z10, c1]
    · simp only [s_X10_kitchen, s_X10_kitchen_L52, va, vb, vc, Option.bind_some, reduceIte, zbq, z10, c1]
  by_cases c2 : 0 ≤ a5
  · by_cases c3 : (999 : Int32) < a3
    · refine zop_r6 hI0 ?_ ?_
      · simp only [s_X9_kitchen, s_X9_kitchen_L82, wa, wb, wc, Option.bind_some, reduceIte, zbq, z10, c1, c2, c3]
      · simp only [s_X10_kitchen, s_X10_kitchen_L83, va, vb, vc, Option.bind_some, reduceIte, zbq, z10, c1, c2, c3]
    by_cases c4 : (255 : Int32) < a5
    · refine zop_r6 hI0 ?_ ?_
      · simp only [s_X9_kitchen, s_X9_kitchen_L82, wa, wb, wc, Option.bind_some, reduceIte, zbq, z10, c1, c2, c3, c4]
      · simp only [s_X10_kitchen, s_X10_kitchen_L83, va, vb, vc, Option.bind_some, reduceIte, zbq, z10, c1, c2, c3, c4]
    by_cases c5 : nk = 20
    · subst c5
      refine zop_r6 hI0 ?_ ?_
      · simp only [s_X9_kitchen, s_X9_kitchen_L82, wa, wb, wc, Option.bind_some, reduceIte, zbq, z10, c1, c2, c3, c4, e_X4_full1 k1]
      · simp only [s_X10_kitchen, s_X10_kitchen_L83, va, vb, vc, Option.bind_some, reduceIte, zbq, z10, c1, c2, c3, c4, show (zr1 h 6).1 67 8 = 20 from k2]
    have hlt : nk < 20 := by omega
    have c5' : ¬ nI nk = 20 := fun z => c5 ((nI_eq (b := 20) (by omega) (by decide)).mp z)
    refine zop_ok (r := nI nk) (h1 := zkA h nk (nI a) (nI b) a3 (nI c) a5) (h2 := zkB (zkA h nk (nI a) (nI b) a3 (nI c) a5) nk (nI a) (nI b) a3 (nI c) a5) ?_ ?_ ?_
    · simp only [s_X9_kitchen, wa, wb, wc, Option.bind_some, reduceIte, zbq, z10, c1, c2, c3, c4, e_X4_full0 k1 hlt, e_X4_add k1 hlt]
    · have e67 : (zkA h nk (nI a) (nI b) a3 (nI c) a5).1 67 8 = nI nk := k2
      simp only [s_X10_kitchen, va, vb, vc, Option.bind_some, reduceIte, z10, c1, c2, c3, c4, e67, c5', zuiA hlt (by decide : 20 < 2 ^ 31), zrd, Nat.reduceEqDiff, zpi, nI_1, zud, nI_pred, zkB]
    · obtain ⟨m, m1, m2, rfl⟩ : ∃ p, 1 ≤ p ∧ p ≤ 999 ∧ a3 = nI p := by
        rw [Int32.lt_iff_toInt_lt] at c1 c3
        have e1 : (1 : Int32).toInt = 1 := by decide
        have e2 : (999 : Int32).toInt = 999 := by decide
        exact znat (a := 1) (b := 999) (by omega) (by omega)
      obtain ⟨d, d1, d2, rfl⟩ : ∃ p, 0 ≤ p ∧ p ≤ 255 ∧ a5 = nI p := by
        rw [Int32.lt_iff_toInt_lt] at c4
        rw [Int32.le_iff_toInt_le] at c2
        have e2 : (255 : Int32).toInt = 255 := by decide
        exact znat (a := 0) (b := 255) c2 (by omega)
      refine ⟨t, nc, nk + 1, nl, nt, np, h1, h2, ⟨⟨rfl, rfl, by omega⟩, ⟨?_, ?_, ?_, ?_, ?_, x6, x7⟩, ?_, y2⟩, h4, h5, zIl_mono (h := zkB (zkA h nk (nI a) (nI b) (nI m) (nI c) (nI d)) nk (nI a) (nI b) (nI m) (nI c) (nI d)) (Nat.le_succ nk) (Nat.le_refl t) h6, h7, h8, h9⟩
      · show upd (h.1 14) nk (nI a) = upd (h.1 74) nk (nI a)
        rw [x1]
      · show upd (h.1 15) nk (nI b) = upd (h.1 75) nk (nI b)
        rw [x2]
      · show upd (h.1 16) nk (nI m) = upd (h.1 76) nk (nI m)
        rw [x3]
      · show upd (h.1 17) nk (nI c) = upd (h.1 77) nk (nI c)
        rw [x4]
      · show upd (h.1 18) nk (nI d) = upd (h.1 78) nk (nI d)
        rw [x5]
      · intro i hi
        show (∃ q, q < 4 ∧ upd (h.1 14) nk (nI a) i = nI q) ∧ (∃ q, q < 6 ∧ upd (h.1 15) nk (nI b) i = nI q) ∧ (∃ q, 1 ≤ q ∧ q ≤ 999 ∧ upd (h.1 16) nk (nI m) i = nI q) ∧ (∃ q, q < 10 ∧ upd (h.1 17) nk (nI c) i = nI q) ∧ (∃ q, q < 256 ∧ upd (h.1 18) nk (nI d) i = nI q)
        by_cases e : i = nk
        · subst e
          simp only [pk_us]
          exact ⟨⟨a, ha, rfl⟩, ⟨b, hb, rfl⟩, ⟨m, m1, m2, rfl⟩, ⟨c, hcc, rfl⟩, ⟨d, by omega, rfl⟩⟩
        · simp only [pk_un e]
          exact y1 i (by omega)
  · refine zop_r4 hI0 ?_ ?_
    · simp only [s_X9_kitchen, s_X9_kitchen_L50, wa, wb, wc, Option.bind_some, reduceIte, zbq, z10, c1, c2]
    · simp only [s_X10_kitchen, s_X10_kitchen_L52, va, vb, vc, Option.bind_some, reduceIte, zbq, z10, c1, c2]
theorem op_hard (a1 a2 : Int32) (ha2 : a2 = 0 ∨ a2 = 1) {h : zHp} (hI : zI h) : zop (s_X9_hard a1 a2) (s_X10_hard a1 a2) h := by
  have hI0 := hI
  obtain ⟨t, nc, nk, nl, nt, np, h1, h2, ⟨⟨k1, k2, k3⟩, ⟨x1, x2, x3, x4, x5, x6, x7⟩, y1, y2⟩, h4, h5, h6, h7, h8, h9⟩ := hI
  rcases zix a1 (n := nk) (by omega) with ⟨hc, hc'⟩ | ⟨i, hi, rfl, i1, i2, i3⟩
  · refine zop_r1 hI0 ?_ ?_
    · simp only [s_X9_hard, e_hX40 (by rw [k1]; exact hc), Option.bind_some, reduceIte, zbq]
    · simp only [s_X10_hard, e_isKitchen0 (h := zr1 h 1) (by rw [zm67, k2]; exact hc'), Option.bind_some, reduceIte, zbq]
  have w1 : s_X4_has (nI i) h = some (1, h) := e_hX41 i1 (by rw [k1]; exact i2)
  have v1 : ∀ h' : zHp, h'.1 67 8 = nI nk → s_X10_isKitchen (nI i) h' = some (1, h') := fun h' e => e_isKitchen1 i1 (by rw [e]; exact i3)
  have hi20 : i < 20 := by omega
  have w2 : s_X4_isHard (nI i) h = some (h.1 20 i, h) := by
    simp only [s_X4_isHard, zriA hi20 (by decide : 20 < 2 ^ 31), Option.bind_some, (znar01 (y2 i)).2]
  have e79 : h.1 79 i = h.1 20 i := congrFun x7.symm i
  by_cases c1 : h.1 20 i = a2
  · refine zop_ok (r := 0) (h1 := h) (h2 := zwi h 79 i a2) ?_ ?_ ?_
    · simp only [s_X9_hard, w1, w2, Option.bind_some, reduceIte, z10, c1]
    · simp only [s_X10_hard, s_X10_hard_L38, v1 h k2, Option.bind_some, reduceIte, z10, zriA hi20 (by decide : 20 < 2 ^ 31), zuiA hi20 (by decide : 20 < 2 ^ 31), e79, c1, (znar01 ha2).1]
    · have e : zwi h 79 i a2 = h := by
        obtain ⟨f, g⟩ := h
        unfold zwi
        congr 1
        funext a b
        simp only [va_up]
        by_cases ha : a = 79
        · subst ha
          rw [if_pos rfl]
          by_cases hb : b = i
          · subst hb; rw [pk_us]; exact (e79.trans c1).symm
          · rw [pk_un hb]
        · rw [if_neg ha]
      rw [e]; exact hI0
  · refine zop_ok (r := 1) (h1 := zwi h 20 i a2) (h2 := zwi (zwi h 20 i a2) 79 i a2) ?_ ?_ ?_
    · simp only [s_X9_hard, s_X4_changeHard, w1, w2, Option.bind_some, reduceIte, z10, c1, zuiA hi20 (by decide : 20 < 2 ^ 31), (znar01 ha2).1]
    · simp only [s_X10_hard, s_X10_hard_L38, v1 (zwi h 20 i a2) k2, Option.bind_some, reduceIte, z10, zriA hi20 (by decide : 20 < 2 ^ 31), zuiA hi20 (by decide : 20 < 2 ^ 31), show (zwi h 20 i a2).1 79 i = h.1 20 i from e79, c1, (znar01 ha2).1]
    · refine ⟨t, nc, nk, nl, nt, np, h1, h2, ⟨⟨k1, k2, k3⟩, ⟨x1, x2, x3, x4, x5, x6, ?_⟩, y1, ?_⟩, h4, h5, h6, h7, h8, h9⟩
      · show upd (h.1 20) i a2 = upd (h.1 79) i a2
        rw [x7]
      · intro j
        show upd (h.1 20) i a2 j = 0 ∨ upd (h.1 20) i a2 j = 1
        by_cases e : j = i
        · rw [e, pk_us]; exact ha2
        · rw [pk_un e]; exact y2 j
theorem zix2 {a b n : Nat} : nI a * (10 : Int32) + nI b = nI (a * 10 + b) ∧ (10 : Int32) * nI a + nI b = nI (a * 10 + b) := by
  have e : (10 : Int32) = nI 10 := by decide
  rw [e, pk_mul, pk_mul, nI_add, nI_add]
  exact ⟨rfl, by rw [Nat.mul_comm 10 a]⟩
theorem op_kin (a1 a2 a3 : Int32) (ha3 : a3 = 0 ∨ a3 = 1) {h : zHp} (hI : zI h) : zop (s_X9_kin a1 a2 a3) (s_X10_kin a1 a2 a3) h := by
  have hI0 := hI
  obtain ⟨t, nc, nk, nl, nt, np, h1, h2, h3, h4, ⟨x1, x2, x3, x4, x5, x6⟩, h6, h7, h8, h9⟩ := hI
  rcases zix a1 (n := 5) (by decide) with ⟨hc, hc'⟩ | ⟨a, ha, rfl, i1, i2, i3⟩
  · refine zop_r1 hI0 ?_ ?_
    · simp only [s_X9_kin, s_X9_kin_L17, e_wi0 (b := 5) hc, Option.bind_some, reduceIte, zbq]
    · simp only [s_X10_kin, s_X10_kin_L19, e_in0 (b := 0) (c := 4) hc', Option.bind_some, reduceIte, zbq]
  have wa : ∀ h', s_X9_isWithin (nI a) 5 h' = some (1, h') := fun h' => e_wi1 i1 i2
  have va : ∀ h', s_X10_in (nI a) 0 4 h' = some (1, h') := fun h' => e_in1 i1 i3
  rcases zix a2 (n := 10) (by decide) with ⟨hc, hc'⟩ | ⟨b, hb, rfl, i1, i2, i3⟩
  · refine zop_r1 hI0 ?_ ?_
    · simp only [s_X9_kin, s_X9_kin_L17, wa, e_wi0 (b := 10) hc, Option.bind_some, reduceIte, zbq, z10]
    · simp only [s_X10_kin, s_X10_kin_L19, va, e_in0 (b := 0) (c := 9) hc', Option.bind_some, reduceIte, zbq, z10]
  have wb : ∀ h', s_X9_isWithin (nI b) 10 h' = some (1, h') := fun h' => e_wi1 i1 i2
  have vb : ∀ h', s_X10_in (nI b) 0 9 h' = some (1, h') := fun h' => e_in1 i1 i3
  have hr : a * 10 + b < 50 := by omega
  have w2 : s_X9_isKin (nI a) (nI b) h = some (h.1 2 (a * 10 + b), h) := by
    simp only [s_X9_isKin, (zix2 (a := a) (b := b) (n := 0)).1, zriA hr (by decide : 50 < 2 ^ 31), Option.bind_some, (znar01 (x3 (a * 10 + b))).2]
  have e81 : h.1 81 (a * 10 + b) = h.1 2 (a * 10 + b) := congrFun x2.symm _
  by_cases c1 : h.1 2 (a * 10 + b) = a3
  · refine zop_ok (r := 0) (h1 := h) (h2 := zwi h 81 (a * 10 + b) a3) ?_ ?_ ?_
    · simp only [s_X9_kin, wa, wb, w2, Option.bind_some, reduceIte, z10, c1]
    · simp only [s_X10_kin, s_X10_kin_L61, va, vb, (zix2 (a := a) (b := b) (n := 0)).2, Option.bind_some, reduceIte, z10, zriA hr (by decide : 50 < 2 ^ 31), zuiA hr (by decide : 50 < 2 ^ 31), e81, c1, (znar01 ha3).1]
    · have e : zwi h 81 (a * 10 + b) a3 = h := by
        obtain ⟨f, g⟩ := h
        unfold zwi
        congr 1
        funext p r
        simp only [va_up]
        by_cases hp : p = 81
        · subst hp
          rw [if_pos rfl]
          by_cases hq : r = a * 10 + b
          · subst hq; rw [pk_us]; exact (e81.trans c1).symm
          · rw [pk_un hq]
        · rw [if_neg hp]
      rw [e]; exact hI0
  · refine zop_ok (r := 1) (h1 := zwi h 2 (a * 10 + b) a3) (h2 := zwi (zwi h 2 (a * 10 + b) a3) 81 (a * 10 + b) a3) ?_ ?_ ?_
    · simp only [s_X9_kin, wa, wb, w2, Option.bind_some, reduceIte, z10, c1, (zix2 (a := a) (b := b) (n := 0)).1, zuiA hr (by decide : 50 < 2 ^ 31), (znar01 ha3).1]
    · simp only [s_X10_kin, s_X10_kin_L61, va, vb, (zix2 (a := a) (b := b) (n := 0)).2, Option.bind_some, reduceIte, z10, zriA hr (by decide : 50 < 2 ^ 31), zuiA hr (by decide : 50 < 2 ^ 31), show (zwi h 2 (a * 10 + b) a3).1 81 (a * 10 + b) = h.1 2 (a * 10 + b) from e81, c1, (znar01 ha3).1]
    · refine ⟨t, nc, nk, nl, nt, np, h1, h2, h3, h4, ⟨x1, ?_, ?_, x4, x5, x6⟩, h6, h7, h8, h9⟩
      · show upd (h.1 2) _ a3 = upd (h.1 81) _ a3
        rw [x2]
      · intro j
        show upd (h.1 2) (a * 10 + b) a3 j = 0 ∨ upd (h.1 2) (a * 10 + b) a3 j = 1
        by_cases e : j = a * 10 + b
        · rw [e, pk_us]; exact ha3
        · rw [pk_un e]; exact x3 j

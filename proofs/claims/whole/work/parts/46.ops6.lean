theorem zrd2 (x : Int32) (hx : ¬ x < 0) : (0 : Int) ≤ x.toInt := by rw [Int32.lt_iff_toInt_lt, Int32.toInt_zero] at hx; omega
def zsA (h : zHp) (i s : Nat) (a2 a3 : Int32) : zHp := zwi (zwi (zwi h 22 (8 * i + s) a2) 23 (8 * i + s) a3) 21 i (nI (s + 1))
def zsB (h : zHp) (i s : Nat) (a2 a3 : Int32) : zHp := zwi (zwi (zwi h 107 (8 * i + s) a2) 108 (8 * i + s) a3) 106 i (nI (s + 1))
theorem op_shut (a1 a2 a3 : Int32) {h : zHp} (hI : zI h) : zop (s_X9_shut a1 a2 a3) (s_X10_shut a1 a2 a3) h := by
  have hI0 := hI
  obtain ⟨t, nc, nk, nl, nt, np, h1, h2, ⟨⟨k1, k2, k3⟩, k4⟩, ⟨⟨x1, x2, x3⟩, y1⟩, h5, h6, h7, h8, h9⟩ := hI
  rcases zix a1 (n := nk) (by omega) with ⟨hc, hc'⟩ | ⟨i, hi, rfl, i1, i2, i3⟩
  · refine zop_r1 hI0 ?_ ?_
    · simp only [s_X9_shut, e_hX40 (by rw [k1]; exact hc), Option.bind_some, reduceIte, zbq]
    · simp only [s_X10_shut, e_isKitchen0 (h := zr1 h 1) (by rw [zm67, k2]; exact hc'), Option.bind_some, reduceIte, zbq]
  have w1 : s_X4_has (nI i) h = some (1, h) := e_hX41 i1 (by rw [k1]; exact i2)
  have v1 : ∀ h' : zHp, h'.1 67 8 = nI nk → s_X10_isKitchen (nI i) h' = some (1, h') := fun h' e => e_isKitchen1 i1 (by rw [e]; exact i3)
  have hi20 : i < 20 := by omega
  have z20 : ∀ (h' : zHp) (k : Nat), zri h' k 20 (nI i) = some (h'.1 k i) := fun h' k => zri_ok hi20 (by decide)
  obtain ⟨s, s1, s2, s3⟩ := y1 i hi20
  have e106 : h.1 106 i = nI s := (congrFun x1.symm i).trans s2
  by_cases c1 : a2 < 0
  · refine zop_r4 hI0 ?_ ?_
    · simp only [s_X9_shut, s_X9_shut_L26, w1, Option.bind_some, reduceIte, zbq, z10, c1]
    · simp only [s_X10_shut, s_X10_shut_L23, v1 (zr1 h 4) k2, Option.bind_some, reduceIte, zbq, z10, c1]
  by_cases c2 : a2 ≤ a3
  · by_cases c3 : (1500 : Int32) < a3
    · refine zop_r6 hI0 ?_ ?_
      · simp only [s_X9_shut, s_X9_shut_L53, w1, Option.bind_some, reduceIte, zbq, z10, c1, c2, c3]
      · simp only [s_X10_shut, s_X10_shut_L48, v1 (zr1 h 6) k2, Option.bind_some, reduceIte, zbq, z10, c1, c2, c3]
    have w2 : s_X4_shutsOf (nI i) h = some (nI s, h) := by simp only [s_X4_shutsOf, z20, Option.bind_some, s2]
    by_cases c4 : s = 8
    · subst c4
      refine zop_r6 hI0 ?_ ?_
      · simp only [s_X9_shut, s_X9_shut_L53, w1, w2, Option.bind_some, reduceIte, zbq, z10, c1, c2, c3, show ¬ nI 8 < 8 from by decide]
      · simp only [s_X10_shut, s_X10_shut_L48, v1 (zr1 h 6) k2, z20, Option.bind_some, reduceIte, zbq, z10, c1, c2, c3, show (zr1 h 6).1 106 i = 8 from e106]
    have c4' : ¬ nI s = 8 := fun z => c4 ((nI_eq (b := 8) (by omega) (by decide)).mp z)
    have hr : 8 * i + s < 160 := by omega
    refine zop_ok (r := nI (s + 1)) (h1 := zsA h i s a2 a3) (h2 := zsB (zsA h i s a2 a3) i s a2 a3) ?_ ?_ ?_
    · simp only [s_X9_shut, s_X4_addShut, w1, w2, z20, s2, Option.bind_some, reduceIte, z10, c1, c2, c3, show nI s < 8 from nI_lt (b := 8) (by omega) (by decide), (zix8 (a := i) (b := s)).1, zuiA hr (by decide : 160 < 2 ^ 31), zuiA hi20 (by decide : 20 < 2 ^ 31), zrd, Nat.reduceEqDiff, nI_1, zsA]
    · simp only [s_X10_shut, v1 (zsA h i s a2 a3) k2, z20, show (zsA h i s a2 a3).1 106 i = nI s from e106, Option.bind_some, reduceIte, z10, c1, c2, c3, c4', (zix8 (a := i) (b := s)).2, zuiA hr (by decide : 160 < 2 ^ 31), zuiA hi20 (by decide : 20 < 2 ^ 31), zrd, Nat.reduceEqDiff, nI_1, zsB, zud]
    · simp only [Int32.lt_iff_toInt_lt, Int32.le_iff_toInt_le, Int32.toInt_zero] at c1 c2 c3
      have e1 : (1500 : Int32).toInt = 1500 := by decide
      obtain ⟨n3, p3, p4, rfl⟩ := znat (x := a3) (a := 0) (b := 1500) (by omega) (by omega)
      rw [nI_toInt (by omega)] at c2
      obtain ⟨n2, p1, p2, rfl⟩ := znat (x := a2) (a := 0) (b := n3) (by omega) (by omega)
      refine ⟨t, nc, nk, nl, nt, np, h1, h2, ⟨⟨k1, k2, k3⟩, k4⟩, ⟨⟨?_, ?_, ?_⟩, ?_⟩, h5, h6, h7, h8, h9⟩
      · show upd (h.1 21) i _ = upd (h.1 106) i _
        rw [x1]
      · show upd (h.1 22) _ _ = upd (h.1 107) _ _
        rw [x2]
      · show upd (h.1 23) _ _ = upd (h.1 108) _ _
        rw [x3]
      · intro j hj
        show ∃ s', s' ≤ 8 ∧ upd (h.1 21) i (nI (s + 1)) j = nI s' ∧ ∀ r, r < s' → ∃ f e, f ≤ e ∧ e ≤ 1500 ∧ upd (h.1 22) (8 * i + s) (nI n2) (8 * j + r) = nI f ∧ upd (h.1 23) (8 * i + s) (nI n3) (8 * j + r) = nI e
        by_cases e : j = i
        · subst e
          refine ⟨s + 1, by omega, pk_us, fun r hr' => ?_⟩
          by_cases er : r = s
          · subst er
            exact ⟨n2, n3, p2, p4, pk_us, pk_us⟩
          · rw [pk_un (by omega), pk_un (by omega)]; exact s3 r (by omega)
        · obtain ⟨s', q1, q2, q3⟩ := y1 j hj
          refine ⟨s', q1, by rw [pk_un e]; exact q2, fun r hr' => ?_⟩
          rw [pk_un (by omega), pk_un (by omega)]; exact q3 r hr'
  · refine zop_r4 hI0 ?_ ?_
    · simp only [s_X9_shut, s_X9_shut_L26, w1, Option.bind_some, reduceIte, zbq, z10, c1, c2]
    · simp only [s_X10_shut, s_X10_shut_L23, v1 (zr1 h 4) k2, Option.bind_some, reduceIte, zbq, z10, c1, c2]
theorem e_X1_full0 {h : zHp} {n : Nat} (hn : h.1 52 7 = nI n) (hlt : n < 20) : s_X1_isFull h = some (0, h) := by
  unfold s_X1_isFull s_X1_isFull_L14
  rw [hn, if_pos (show nI n < 20 from nI_lt (b := 20) hlt (by decide)), zbs zbo0]
theorem e_X1_full1 {h : zHp} (hn : h.1 52 7 = nI 20) : s_X1_isFull h = some (1, h) := by
  unfold s_X1_isFull s_X1_isFull_L14
  rw [hn, if_neg (by decide), zbs zbo1]
def zpA (h : zHp) (n : Nat) (a1 a2 a3 a4 : Int32) : zHp := zwi (zwi (zwi (zwi (zwi h 53 n a1) 54 n a2) 55 n a3) 56 n a4) 52 7 (nI (n + 1))
def zpB (h : zHp) (n : Nat) (a1 a2 a3 a4 : Int32) : zHp := zwi (zwi (zwi (zwi (zwi h 109 n a1) 110 n a2) 111 n a3) 112 n a4) 67 51 (nI (n + 1))
theorem e_X1_add {h : zHp} {n : Nat} {a1 a2 a3 a4 : Int32} (hn : h.1 52 7 = nI n) (hlt : n < 20) : s_X1_add a1 a2 a3 a4 h = some (nI n, zpA h n a1 a2 a3 a4) := by
  simp only [s_X1_add, hn, zuiA hlt (by decide : 20 < 2 ^ 31), zrd, Nat.reduceEqDiff, reduceIte, Option.bind_some, zpi, nI_1, zpA]
theorem op_complaint (a1 a2 a3 a4 : Int32) {h : zHp} (hI : zI h) : zop (s_X9_complaint a1 a2 a3 a4) (s_X10_complaint a1 a2 a3 a4) h := by
  have hI0 := hI
  obtain ⟨t, nc, nk, nl, nt, np, h1, h2, h3, h4, h5, h6, h7, ⟨⟨k1, k2, k3⟩, ⟨x1, x2, x3, x4⟩, y1⟩, h9⟩ := hI
  rcases zix a1 (n := 6) (by decide) with ⟨hc, hc'⟩ | ⟨a, ha, rfl, i1, i2, i3⟩
  · refine zop_r1 hI0 ?_ ?_
    · simp only [s_X9_complaint, s_X9_complaint_L19, e_wi0 (b := 6) hc, Option.bind_some, reduceIte, zbq]
    · simp only [s_X10_complaint, s_X10_complaint_L20, e_in0 (b := 0) (c := 5) hc', Option.bind_some, reduceIte, zbq]
  have wa : ∀ h', s_X9_isWithin (nI a) 6 h' = some (1, h') := fun h' => e_wi1 i1 i2
  have va : ∀ h', s_X10_in (nI a) 0 5 h' = some (1, h') := fun h' => e_in1 i1 i3
  rcases zix a4 (n := 8) (by decide) with ⟨hc, hc'⟩ | ⟨b, hb, rfl, i1, i2, i3⟩
  · refine zop_r1 hI0 ?_ ?_
    · simp only [s_X9_complaint, s_X9_complaint_L19, wa, e_wi0 (b := 8) hc, Option.bind_some, reduceIte, zbq, z10]
    · simp only [s_X10_complaint, s_X10_complaint_L20, va, e_in0 (b := 0) (c := 7) hc', Option.bind_some, reduceIte, zbq, z10]
  have wb : ∀ h', s_X9_isWithin (nI b) 8 h' = some (1, h') := fun h' => e_wi1 i1 i2
  have vb : ∀ h', s_X10_in (nI b) 0 7 h' = some (1, h') := fun h' => e_in1 i1 i3
  by_cases c1 : a2 < 0
  · refine zop_r4 hI0 ?_ ?_
    · simp only [s_X9_complaint, s_X9_complaint_L34, wa, wb, Option.bind_some, reduceIte, zbq, z10, c1]
    · simp only [s_X10_complaint, s_X10_complaint_L35, va, vb, Option.bind_some, reduceIte, zbq, z10, c1]
  by_cases c2 : a2 ≤ a3
  · by_cases c3 : (1500 : Int32) < a3
    · refine zop_r6 hI0 ?_ ?_
      · simp only [s_X9_complaint, s_X9_complaint_L58, wa, wb, Option.bind_some, reduceIte, zbq, z10, c1, c2, c3]
      · simp only [s_X10_complaint, s_X10_complaint_L58, va, vb, Option.bind_some, reduceIte, zbq, z10, c1, c2, c3]
    by_cases c4 : np = 20
    · subst c4
      refine zop_r6 hI0 ?_ ?_
      · simp only [s_X9_complaint, s_X9_complaint_L58, wa, wb, Option.bind_some, reduceIte, zbq, z10, c1, c2, c3, e_X1_full1 k1]
      · simp only [s_X10_complaint, s_X10_complaint_L58, va, vb, Option.bind_some, reduceIte, zbq, z10, c1, c2, c3, show (zr1 h 6).1 67 51 = 20 from k2]
    have hlt : np < 20 := by omega
    have c4' : ¬ nI np = 20 := fun z => c4 ((nI_eq (b := 20) (by omega) (by decide)).mp z)
    refine zop_ok (r := nI np) (h1 := zpA h np (nI a) a2 a3 (nI b)) (h2 := zpB (zpA h np (nI a) a2 a3 (nI b)) np (nI a) a2 a3 (nI b)) ?_ ?_ ?_
    · simp only [s_X9_complaint, wa, wb, Option.bind_some, reduceIte, z10, c1, c2, c3, e_X1_full0 k1 hlt, e_X1_add k1 hlt]
    · simp only [s_X10_complaint, va, vb, Option.bind_some, reduceIte, z10, c1, c2, c3, show (zpA h np (nI a) a2 a3 (nI b)).1 67 51 = nI np from k2, c4', zuiA hlt (by decide : 20 < 2 ^ 31), zrd, Nat.reduceEqDiff, zpi, nI_1, zud, nI_pred, zpB]
    · simp only [Int32.lt_iff_toInt_lt, Int32.le_iff_toInt_le, Int32.toInt_zero] at c1 c2 c3
      have e1 : (1500 : Int32).toInt = 1500 := by decide
      obtain ⟨n3, p3, p4, rfl⟩ := znat (x := a3) (a := 0) (b := 1500) (by omega) (by omega)
      rw [nI_toInt (by omega)] at c2
      obtain ⟨n2, p1, p2, rfl⟩ := znat (x := a2) (a := 0) (b := n3) (by omega) (by omega)
      refine ⟨t, nc, nk, nl, nt, np + 1, h1, h2, h3, h4, h5, h6, h7, ⟨⟨rfl, rfl, by omega⟩, ⟨?_, ?_, ?_, ?_⟩, ?_⟩, h9⟩
      · show upd (h.1 53) _ _ = upd (h.1 109) _ _
        rw [x1]
      · show upd (h.1 54) _ _ = upd (h.1 110) _ _
        rw [x2]
      · show upd (h.1 55) _ _ = upd (h.1 111) _ _
        rw [x3]
      · show upd (h.1 56) _ _ = upd (h.1 112) _ _
        rw [x4]
      · intro j hj
        show (∃ q, q < 6 ∧ upd (h.1 53) np (nI a) j = nI q) ∧ (∃ q, q < 8 ∧ upd (h.1 56) np (nI b) j = nI q) ∧ ∃ f e, f ≤ e ∧ e ≤ 1500 ∧ upd (h.1 54) np (nI n2) j = nI f ∧ upd (h.1 55) np (nI n3) j = nI e
        by_cases e : j = np
        · subst e
          exact ⟨⟨a, ha, pk_us⟩, ⟨b, hb, pk_us⟩, n2, n3, p2, p4, pk_us, pk_us⟩
        · simp only [pk_un e]; exact y1 j (by omega)
  · refine zop_r4 hI0 ?_ ?_
    · simp only [s_X9_complaint, s_X9_complaint_L34, wa, wb, Option.bind_some, reduceIte, zbq, z10, c1, c2]
    · simp only [s_X10_complaint, s_X10_complaint_L35, va, vb, Option.bind_some, reduceIte, zbq, z10, c1, c2]
theorem op_began (a1 a2 : Int32) {h : zHp} (hI : zI h) : zop (s_X9_began a1 a2) (s_X10_began a1 a2) h := by
  have hI0 := hI
  obtain ⟨t, nc, nk, nl, nt, np, h1, h2, h3, h4, h5, h6, h7, h8, ⟨⟨x1, x2⟩, y1, y2⟩⟩ := hI
  rcases zix a1 (n := 6) (by decide) with ⟨hc, hc'⟩ | ⟨g, hg, rfl, g1, g2, g3⟩
  · refine zop_r1 hI0 ?_ ?_
    · simp only [s_X9_began, e_wi0 (b := 6) hc, Option.bind_some, reduceIte, zbq]
    · simp only [s_X10_began, e_in0 (b := 0) (c := 5) hc', Option.bind_some, reduceIte, zbq]
  have w1 : ∀ h', s_X9_isWithin (nI g) 6 h' = some (1, h') := fun h' => e_wi1 g1 g2
  have w2 : ∀ h', s_X10_in (nI g) 0 5 h' = some (1, h') := fun h' => e_in1 g1 g3
  by_cases c1 : 0 ≤ a2
  · by_cases c2 : a2 ≤ 12
    · refine zop_ok (r := h.1 60 g) (h1 := zwi h 60 g a2) (h2 := zwi (zwi h 60 g a2) 113 g a2) ?_ ?_ ?_
      · simp only [s_X9_began, s_X7_changeBegan, w1, Option.bind_some, reduceIte, z10, c1, c2, zuiA hg (by decide : 6 < 2 ^ 31), zriA hg (by decide : 6 < 2 ^ 31)]
      · simp only [s_X10_began, w2, Option.bind_some, reduceIte, z10, c1, c2, zuiA hg (by decide : 6 < 2 ^ 31), zriA hg (by decide : 6 < 2 ^ 31), show (zwi h 60 g a2).1 113 g = h.1 60 g from congrFun x1.symm g]
      · obtain ⟨p, p1, p2, rfl⟩ : ∃ p, 0 ≤ p ∧ p ≤ 12 ∧ a2 = nI p := by
          rw [Int32.le_iff_toInt_le] at c1 c2
          exact znat (a := 0) (b := 12) c1 c2
        refine ⟨t, nc, nk, nl, nt, np, h1, h2, h3, h4, h5, h6, h7, h8, ⟨⟨?_, x2⟩, ?_, y2⟩⟩
        · show upd (h.1 60) _ _ = upd (h.1 113) _ _
          rw [x1]
        · intro i hi
          show ∃ m, m ≤ 12 ∧ upd (h.1 60) g (nI p) i = nI m
          by_cases e : i = g
          · exact ⟨p, p2, by rw [e, pk_us]⟩
          · rw [pk_un e]; exact y1 i hi
    · refine zop_r6 hI0 ?_ ?_
      · simp only [s_X9_began, w1, Option.bind_some, reduceIte, z10, c1, c2, zbq]
      · simp only [s_X10_began, w2, Option.bind_some, reduceIte, z10, c1, c2, zbq]
  · refine zop_r4 hI0 ?_ ?_
    · simp only [s_X9_began, w1, Option.bind_some, reduceIte, z10, c1, zbq]
    · simp only [s_X10_began, w2, Option.bind_some, reduceIte, z10, c1, zbq]
theorem op_cases (a1 a2 a3 : Int32) {h : zHp} (hI : zI h) : zop (s_X9_cases a1 a2 a3) (s_X10_cases a1 a2 a3) h := by
  have hI0 := hI
  obtain ⟨t, nc, nk, nl, nt, np, h1, h2, h3, h4, h5, h6, h7, h8, ⟨⟨x1, x2⟩, y1, y2⟩⟩ := hI
  rcases zix a1 (n := 6) (by decide) with ⟨hc, hc'⟩ | ⟨a, ha, rfl, g1, g2, g3⟩
  · refine zop_r1 hI0 ?_ ?_
    · simp only [s_X9_cases, s_X9_cases_L18, e_wi0 (b := 6) hc, Option.bind_some, reduceIte, zbq]
    · simp only [s_X10_cases, s_X10_cases_L19, e_in0 (b := 0) (c := 5) hc', Option.bind_some, reduceIte, zbq]
  have w1 : ∀ h', s_X9_isWithin (nI a) 6 h' = some (1, h') := fun h' => e_wi1 g1 g2
  have w2 : ∀ h', s_X10_in (nI a) 0 5 h' = some (1, h') := fun h' => e_in1 g1 g3
  rcases zix a2 (n := 12) (by decide) with ⟨hc, hc'⟩ | ⟨b, hb, rfl, i1, i2, i3⟩
  · refine zop_r1 hI0 ?_ ?_
    · simp only [s_X9_cases, s_X9_cases_L18, w1, e_wi0 (b := 12) hc, Option.bind_some, reduceIte, zbq, z10]
    · simp only [s_X10_cases, s_X10_cases_L19, w2, e_in0 (b := 0) (c := 11) hc', Option.bind_some, reduceIte, zbq, z10]
  have wb : ∀ h', s_X9_isWithin (nI b) 12 h' = some (1, h') := fun h' => e_wi1 i1 i2
  have vb : ∀ h', s_X10_in (nI b) 0 11 h' = some (1, h') := fun h' => e_in1 i1 i3
  have hr : 12 * a + b < 72 := by omega
  by_cases c1 : 0 ≤ a3
  · by_cases c2 : a3 ≤ 999
    · refine zop_ok (r := h.1 61 (12 * a + b)) (h1 := zwi h 61 (12 * a + b) a3) (h2 := zwi (zwi h 61 (12 * a + b) a3) 114 (12 * a + b) a3) ?_ ?_ ?_
      · simp only [s_X9_cases, s_X7_changeCases, w1, wb, Option.bind_some, reduceIte, z10, c1, c2, (zix12 (a := a) (b := b)).1, zuiA hr (by decide : 72 < 2 ^ 31), zriA hr (by decide : 72 < 2 ^ 31)]
      · simp only [s_X10_cases, w2, vb, Option.bind_some, reduceIte, z10, c1, c2, (zix12 (a := a) (b := b)).2, zuiA hr (by decide : 72 < 2 ^ 31), zriA hr (by decide : 72 < 2 ^ 31), show (zwi h 61 (12 * a + b) a3).1 114 (12 * a + b) = h.1 61 (12 * a + b) from congrFun x2.symm _]
      · obtain ⟨p, p1, p2, rfl⟩ : ∃ p, 0 ≤ p ∧ p ≤ 999 ∧ a3 = nI p := by
          rw [Int32.le_iff_toInt_le] at c1 c2
          exact znat (a := 0) (b := 999) c1 c2
        refine ⟨t, nc, nk, nl, nt, np, h1, h2, h3, h4, h5, h6, h7, h8, ⟨⟨x1, ?_⟩, y1, ?_⟩⟩
        · show upd (h.1 61) _ _ = upd (h.1 114) _ _
          rw [x2]
        · intro i hi
          show ∃ m, m ≤ 999 ∧ upd (h.1 61) (12 * a + b) (nI p) i = nI m
          by_cases e : i = 12 * a + b
          · exact ⟨p, p2, by rw [e, pk_us]⟩
          · rw [pk_un e]; exact y2 i hi
    · refine zop_r6 hI0 ?_ ?_
      · simp only [s_X9_cases, w1, wb, Option.bind_some, reduceIte, z10, c1, c2, zbq]
      · simp only [s_X10_cases, w2, vb, Option.bind_some, reduceIte, z10, c1, c2, zbq]
  · refine zop_r4 hI0 ?_ ?_
    · simp only [s_X9_cases, w1, wb, Option.bind_some, reduceIte, z10, c1, zbq]
    · simp only [s_X10_cases, w2, vb, Option.bind_some, reduceIte, z10, c1, zbq]

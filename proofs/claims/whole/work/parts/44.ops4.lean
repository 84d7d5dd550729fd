theorem e_isKinR {h : zHp} {a b : Nat} (hr : a * 10 + b < 50) (x3 : ∀ i, h.1 2 i = 0 ∨ h.1 2 i = 1) : s_X9_isKin (nI a) (nI b) h = some (h.1 2 (a * 10 + b), h) := by
  simp only [s_X9_isKin, (zix2 (a := a) (b := b) (n := 0)).1, zriA hr (by decide : 50 < 2 ^ 31), Option.bind_some, (znar01 (x3 (a * 10 + b))).2]
theorem e_X5_full0 {h : zHp} {n : Nat} (hn : h.1 24 8 = nI n) (hlt : n < 80) : s_X5_isFull h = some (0, h) := by
  unfold s_X5_isFull s_X5_isFull_L14
  rw [hn, if_pos (show nI n < 80 from nI_lt (b := 80) hlt (by decide)), zbs zbo0]
theorem e_X5_full1 {h : zHp} (hn : h.1 24 8 = nI 80) : s_X5_isFull h = some (1, h) := by
  unfold s_X5_isFull s_X5_isFull_L14
  rw [hn, if_neg (by decide), zbs zbo1]
def zlA (h : zHp) (n : Nat) (a1 a2 a3 a4 : Int32) : zHp := zwi (zwi (zwi (zwi (zwi h 25 n a1) 26 n a2) 27 n a3) 28 n a4) 24 8 (nI (n + 1))
def zlB (h : zHp) (n : Nat) (a1 a2 a3 a4 : Int32) : zHp := zwi (zwi (zwi (zwi (zwi (zwi h 82 n a1) 83 n a2) 84 n a3) 85 n a4) 86 n (-1)) 67 17 (nI (n + 1))
theorem e_X5_add {h : zHp} {n : Nat} {a1 a2 a3 a4 : Int32} (hn : h.1 24 8 = nI n) (hlt : n < 80) : s_X5_add a1 a2 a3 a4 h = some (nI n, zlA h n a1 a2 a3 a4) := by
  simp only [s_X5_add, hn, zuiA hlt (by decide : 80 < 2 ^ 31), zrd, Nat.reduceEqDiff, reduceIte, Option.bind_some, zpi, nI_1, zlA]
theorem zcb_congr {f g : Nat → Int32} : ∀ {n : Nat}, (∀ i, i < n → f i = g i) → zcb f n = zcb g n
  | 0, _ => rfl
  | n + 1, h => by rw [zcb, zcb, zcb_congr (fun i hi => h i (by omega)), h n (by omega)]
theorem op_look (a1 a2 a3 : Int32) {h : zHp} (hI : zI h) : zop (s_X9_look a1 a2 a3) (s_X10_look a1 a2 a3) h := by
  have hI0 := hI
  obtain ⟨t, nc, nk, nl, nt, np, ⟨d1, d2, d3⟩, h2, ⟨⟨k1, k2, k3⟩, ⟨x1, x2, x3, x4, x5, x6, x7⟩, y1, y2⟩, h4, ⟨m1, m2, m3, m4⟩, ⟨⟨l1, l2, l3⟩, ⟨u1, u2, u3, u4, u5⟩, v1, v2, v3, v4⟩, h7, h8, h9⟩ := hI
  rcases zix a1 (n := nk) (by omega) with ⟨hc, hc'⟩ | ⟨i, hi, rfl, i1, i2, i3⟩
  · refine zop_r1 hI0 ?_ ?_
    · simp only [s_X9_look, s_X9_look_L19, e_hX40 (by rw [k1]; exact hc), Option.bind_some, reduceIte, zbq]
    · simp only [s_X10_look, s_X10_look_L17, e_isKitchen0 (h := zr1 h 1) (by rw [zm67, k2]; exact hc'), Option.bind_some, reduceIte, zbq]
  have w1 : s_X4_has (nI i) h = some (1, h) := e_hX41 i1 (by rw [k1]; exact i2)
  have r1 : ∀ h' : zHp, h'.1 67 8 = nI nk → s_X10_isKitchen (nI i) h' = some (1, h') := fun h' e => e_isKitchen1 i1 (by rw [e]; exact i3)
  rcases zix a2 (n := 5) (by decide) with ⟨hc, hc'⟩ | ⟨b, hb, rfl, j1, j2, j3⟩
  · refine zop_r1 hI0 ?_ ?_
    · simp only [s_X9_look, s_X9_look_L19, w1, e_wi0 (b := 5) hc, Option.bind_some, reduceIte, zbq, z10]
    · simp only [s_X10_look, s_X10_look_L17, r1 (zr1 h 1) k2, e_in0 (b := 0) (c := 4) hc', Option.bind_some, reduceIte, zbq, z10]
  have w2 : ∀ h', s_X9_isWithin (nI b) 5 h' = some (1, h') := fun h' => e_wi1 j1 j2
  have r2 : ∀ h', s_X10_in (nI b) 0 4 h' = some (1, h') := fun h' => e_in1 j1 j3
  have hi20 : i < 20 := by omega
  obtain ⟨-, -, -, ⟨ow, ow1, ow2⟩, -⟩ := y1 i hi
  have hr : b * 10 + ow < 50 := by omega
  have w3 : s_X4_ownerOf (nI i) h = some (nI ow, h) := by simp only [s_X4_ownerOf, zriA hi20 (by decide : 20 < 2 ^ 31), Option.bind_some, ow2]
  have w4 := e_isKinR (h := h) hr m3
  have e77 : h.1 77 i = nI ow := (congrFun x4.symm i).trans ow2
  have e81 : h.1 81 (b * 10 + ow) = h.1 2 (b * 10 + ow) := congrFun m2.symm _
  have z20 : ∀ (h' : zHp) (k : Nat), zri h' k 20 (nI i) = some (h'.1 k i) := fun h' k => zri_ok hi20 (by decide)
  have z50 : ∀ (h' : zHp) (k : Nat), zri h' k 50 (nI (b * 10 + ow)) = some (h'.1 k (b * 10 + ow)) := fun h' k => zri_ok hr (by decide)
  by_cases c1 : h.1 2 (b * 10 + ow) = 0
  · by_cases c2 : a3 ≤ nI t
    · by_cases c3 : 0 ≤ a3
      · by_cases c4 : nl = 80
        · subst c4
          refine zop_r6 hI0 ?_ ?_
          · simp only [s_X9_look, w1, w2, w3, w4, Option.bind_some, reduceIte, zbq, z10, c1, d1, c2, c3, e_X5_full1 l1]
          · simp only [s_X10_look, r1 (zr1 h 6) k2, r2, z20, show (zr1 h 6).1 77 i = nI ow from e77, (zix2 (a := b) (b := ow) (n := 0)).2, z50, show (zr1 h 6).1 81 (b * 10 + ow) = h.1 2 (b * 10 + ow) from e81, Option.bind_some, reduceIte, zbq, z10, c1, show (zr1 h 6).1 67 0 = nI t from d2, c2, c3, show (zr1 h 6).1 67 17 = 80 from l2]
        · have hlt : nl < 80 := by omega
          have c4' : ¬ nI nl = 80 := fun z => c4 ((nI_eq (b := 80) (by omega) (by decide)).mp z)
          refine zop_ok (r := nI nl) (h1 := zlA h nl (nI i) (nI b) a3 (nI t)) (h2 := zlB (zlA h nl (nI i) (nI b) a3 (nI t)) nl (nI i) (nI b) a3 (nI t)) ?_ ?_ ?_
          · simp only [s_X9_look, w1, w2, w3, w4, Option.bind_some, reduceIte, zbq, z10, c1, d1, c2, c3, e_X5_full0 l1 hlt, e_X5_add l1 hlt]
          · have q1 : (zlA h nl (nI i) (nI b) a3 (nI t)).1 67 0 = nI t := d2
            have q2 : (zlA h nl (nI i) (nI b) a3 (nI t)).1 67 17 = nI nl := l2
            have q3 : (zlA h nl (nI i) (nI b) a3 (nI t)).1 77 i = nI ow := e77
            have q4 : (zlA h nl (nI i) (nI b) a3 (nI t)).1 81 (b * 10 + ow) = h.1 2 (b * 10 + ow) := e81
            simp only [s_X10_look, r1 (zlA h nl (nI i) (nI b) a3 (nI t)) k2, r2, z20, q3, (zix2 (a := b) (b := ow) (n := 0)).2, z50, q4, Option.bind_some, reduceIte, z10, c1, q1, c2, c3, q2, c4', zuiA hlt (by decide : 80 < 2 ^ 31), zrd, Nat.reduceEqDiff, zpi, nI_1, zud, nI_pred, zlB]
          · obtain ⟨dd, e1, e2, rfl⟩ : ∃ p, 0 ≤ p ∧ p ≤ t ∧ a3 = nI p := by
              rw [Int32.le_iff_toInt_le] at c2 c3
              rw [nI_toInt (by omega)] at c2
              exact znat (a := 0) (b := t) c3 c2
            refine ⟨t, nc, nk, nl + 1, nt, np, ⟨d1, d2, d3⟩, h2, ⟨⟨k1, k2, k3⟩, ⟨x1, x2, x3, x4, x5, x6, x7⟩, y1, y2⟩, h4, ⟨m1, m2, m3, m4⟩, ⟨⟨rfl, rfl, by omega⟩, ⟨?_, ?_, ?_, ?_, u5⟩, ?_, ?_, v3, ?_⟩, h7, h8, h9⟩
            · show upd (h.1 25) nl (nI i) = upd (h.1 82) nl (nI i)
              rw [u1]
            · show upd (h.1 26) nl (nI b) = upd (h.1 83) nl (nI b)
              rw [u2]
            · show upd (h.1 27) nl (nI dd) = upd (h.1 84) nl (nI dd)
              rw [u3]
            · show upd (h.1 28) nl (nI t) = upd (h.1 85) nl (nI t)
              rw [u4]
            · intro j hj
              show (∃ a, a < nk ∧ upd (h.1 25) nl (nI i) j = nI a) ∧ (∃ a, a < 5 ∧ upd (h.1 26) nl (nI b) j = nI a) ∧ (∃ a, a ≤ t ∧ upd (h.1 27) nl (nI dd) j = nI a) ∧ (∃ a, a ≤ t ∧ upd (h.1 28) nl (nI t) j = nI a) ∧ ((h.1 29 j = 1501 ∧ upd (h.1 86) nl (-1) j = -1) ∨ ∃ b, b ≤ t ∧ h.1 29 j = nI b ∧ upd (h.1 86) nl (-1) j = nI b)
              by_cases e : j = nl
              · subst e
                simp only [pk_us]
                exact ⟨⟨i, hi, rfl⟩, ⟨b, hb, rfl⟩, ⟨dd, e2, rfl⟩, ⟨t, Nat.le_refl t, rfl⟩, Or.inl ⟨v2 j (Nat.le_refl _) hlt, trivial⟩⟩
              · simp only [pk_un e]
                exact v1 j (by omega)
            · intro j hj hj2
              exact v2 j (by omega) hj2
            · show h.1 24 9 = nI (zcb (upd (h.1 86) nl (-1)) (nl + 1))
              rw [v4, zcb, pk_us, if_neg zm1ge, Nat.add_zero, zcb_congr (fun i hi => pk_un (by omega))]
      · refine zop_r4 hI0 ?_ ?_
        · simp only [s_X9_look, w1, w2, w3, w4, Option.bind_some, reduceIte, zbq, z10, c1, d1, c2, c3]
        · simp only [s_X10_look, r1 (zr1 h 4) k2, r2, z20, show (zr1 h 4).1 77 i = nI ow from e77, (zix2 (a := b) (b := ow) (n := 0)).2, z50, show (zr1 h 4).1 81 (b * 10 + ow) = h.1 2 (b * 10 + ow) from e81, Option.bind_some, reduceIte, zbq, z10, c1, show (zr1 h 4).1 67 0 = nI t from d2, c2, c3]
    · refine zop_r3 hI0 ?_ ?_
      · simp only [s_X9_look, w1, w2, w3, w4, Option.bind_some, reduceIte, zbq, z10, c1, d1, c2]
      · simp only [s_X10_look, r1 (zr1 h 3) k2, r2, z20, show (zr1 h 3).1 77 i = nI ow from e77, (zix2 (a := b) (b := ow) (n := 0)).2, z50, show (zr1 h 3).1 81 (b * 10 + ow) = h.1 2 (b * 10 + ow) from e81, Option.bind_some, reduceIte, zbq, z10, c1, show (zr1 h 3).1 67 0 = nI t from d2, c2]
  · refine zop_r7 hI0 ?_ ?_
    · simp only [s_X9_look, w1, w2, w3, w4, Option.bind_some, reduceIte, zbq, z10, c1]
    · simp only [s_X10_look, r1 (zr1 h 7) k2, r2, z20, show (zr1 h 7).1 77 i = nI ow from e77, (zix2 (a := b) (b := ow) (n := 0)).2, z50, show (zr1 h 7).1 81 (b * 10 + ow) = h.1 2 (b * 10 + ow) from e81, Option.bind_some, reduceIte, zbq, z10, c1]
theorem e_taken0 {h : zHp} {i : Nat} (hi : i < 80) (e : h.1 29 i = 1501) : s_X5_isTakenBack (nI i) h = some (0, h) := by
  simp only [s_X5_isTakenBack, s_X5_isTakenBack_L17, zriA hi (by decide : 80 < 2 ^ 31), Option.bind_some, e, show (1501 : Int32) ≤ 1501 from by decide, reduceIte, zbo0]
theorem e_taken1 {h : zHp} {i b : Nat} (hi : i < 80) (hb : b ≤ 1500) (e : h.1 29 i = nI b) : s_X5_isTakenBack (nI i) h = some (1, h) := by
  simp only [s_X5_isTakenBack, s_X5_isTakenBack_L17, zriA hi (by decide : 80 < 2 ^ 31), Option.bind_some, e, show ¬ (1501 : Int32) ≤ nI b from nI_ge (b := 1501) (by omega) (by decide), reduceIte, zbo1]
theorem zcb_upd {f : Nat → Int32} {i : Nat} {b : Int32} (hf : ¬ 0 ≤ f i) (hb : 0 ≤ b) : ∀ {n : Nat}, i < n → zcb (upd f i b) n = zcb f n + 1
  | n + 1, h => by
    rw [zcb, zcb]
    by_cases e : n = i
    · subst e
      rw [pk_us, if_pos hb, if_neg hf, zcb_congr (fun j hj => pk_un (by omega))]
    · rw [pk_un e, zcb_upd hf hb (show i < n by omega)]
      omega
theorem op_back (a1 : Int32) {h : zHp} (hI : zI h) : zop (s_X9_back a1) (s_X10_back a1) h := by
  have hI0 := hI
  obtain ⟨t, nc, nk, nl, nt, np, ⟨d1, d2, d3⟩, h2, h3, h4, h5, ⟨⟨l1, l2, l3⟩, u, v1, v2, v3, v4⟩, h7, h8, h9⟩ := hI
  rcases zix a1 (n := nl) (by omega) with ⟨hc, hc'⟩ | ⟨i, hi, rfl, i1, i2, i3⟩
  · refine zop_r1 hI0 ?_ ?_
    · simp only [s_X9_back, e_hX50 (by rw [l1]; exact hc), Option.bind_some, reduceIte, zbq]
    · simp only [s_X10_back, e_isLook0 (h := zr1 h 1) (by rw [zm67, l2]; exact hc'), Option.bind_some, reduceIte, zbq]
  have w1 : s_X5_has (nI i) h = some (1, h) := e_hX51 i1 (by rw [l1]; exact i2)
  have r1 : ∀ h' : zHp, h'.1 67 17 = nI nl → s_X10_isLook (nI i) h' = some (1, h') := fun h' e => e_isLook1 i1 (by rw [e]; exact i3)
  have hi80 : i < 80 := by omega
  have z80 : ∀ (h' : zHp) (k : Nat), zri h' k 80 (nI i) = some (h'.1 k i) := fun h' k => zri_ok hi80 (by decide)
  obtain ⟨p1, p2, p3, p4, p5⟩ := v1 i hi
  rcases p5 with ⟨b1, b2⟩ | ⟨b, b0, b1, b2⟩
  · have w2 := e_taken0 (h := h) hi80 b1
    refine zop_ok (r := 1) (h1 := zwi (zwi h 29 i (nI t)) 24 9 (h.1 24 9 + 1)) (h2 := zwi (zwi (zwi h 29 i (nI t)) 24 9 (h.1 24 9 + 1)) 86 i (nI t)) ?_ ?_ ?_
    · simp only [s_X9_back, s_X5_takeBack, w1, w2, Option.bind_some, reduceIte, z10, d1, zuiA hi80 (by decide : 80 < 2 ^ 31), zrd, Nat.reduceEqDiff, zpi]
    · simp only [s_X10_back, r1 (zwi (zwi h 29 i (nI t)) 24 9 (h.1 24 9 + 1)) l2, z80, Option.bind_some, reduceIte, z10, show (zwi (zwi h 29 i (nI t)) 24 9 (h.1 24 9 + 1)).1 86 i = -1 from b2, zm1lt, show (zwi (zwi h 29 i (nI t)) 24 9 (h.1 24 9 + 1)).1 67 0 = nI t from d2, zuiA hi80 (by decide : 80 < 2 ^ 31)]
    · refine ⟨t, nc, nk, nl, nt, np, ⟨d1, d2, d3⟩, h2, h3, h4, h5, ⟨⟨l1, l2, l3⟩, u, ?_, ?_, v3, ?_⟩, h7, h8, h9⟩
      · intro j hj
        obtain ⟨q1, q2, q3, q4, q5⟩ := v1 j hj
        refine ⟨q1, q2, q3, q4, ?_⟩
        show (upd (h.1 29) i (nI t) j = 1501 ∧ upd (h.1 86) i (nI t) j = -1) ∨ ∃ b, b ≤ t ∧ upd (h.1 29) i (nI t) j = nI b ∧ upd (h.1 86) i (nI t) j = nI b
        by_cases e : j = i
        · subst e
          exact Or.inr ⟨t, Nat.le_refl t, pk_us, pk_us⟩
        · simp only [pk_un e]; exact q5
      · intro j hj hj2
        show upd (h.1 29) i (nI t) j = 1501
        rw [pk_un (by omega)]; exact v2 j hj hj2
      · show upd (h.1 24) 9 (h.1 24 9 + 1) 9 = nI (zcb (upd (h.1 86) i (nI t)) nl)
        rw [pk_us, zcb_upd (by rw [b2]; exact zm1ge) (zge0 (by omega)) hi, v4, nI_1]
  · have w2 := e_taken1 (h := h) hi80 (show b ≤ 1500 by omega) b1
    refine zop_r3 hI0 ?_ ?_
    · simp only [s_X9_back, w1, w2, Option.bind_some, reduceIte, z10, zbq]
    · simp only [s_X10_back, r1 (zr1 h 3) l2, z80, Option.bind_some, reduceIte, z10, show (zr1 h 3).1 86 i = nI b from b2, nI_pos (show b < 2 ^ 31 by omega), zbq]
theorem op_show (a1 a2 : Int32) {h : zHp} (hI : zI h) : zop (s_X9_show a1 a2) (s_X10_show a1 a2) h := by
  have hI0 := hI
  obtain ⟨t, nc, nk, nl, nt, np, h1, h2, ⟨⟨k1, k2, k3⟩, ⟨x1, x2, x3, x4, x5, x6, x7⟩, y1, y2⟩, h4, h5, h6, h7, h8, h9⟩ := hI
  rcases zix a1 (n := nk) (by omega) with ⟨hc, hc'⟩ | ⟨i, hi, rfl, i1, i2, i3⟩
  · refine zop_r1 hI0 ?_ ?_
    · simp only [s_X9_show, e_hX40 (by rw [k1]; exact hc), Option.bind_some, reduceIte, zbq]
    · simp only [s_X10_show, e_isKitchen0 (h := zr1 h 1) (by rw [zm67, k2]; exact hc'), Option.bind_some, reduceIte, zbq]
  have w1 : s_X4_has (nI i) h = some (1, h) := e_hX41 i1 (by rw [k1]; exact i2)
  have v1 : ∀ h' : zHp, h'.1 67 8 = nI nk → s_X10_isKitchen (nI i) h' = some (1, h') := fun h' e => e_isKitchen1 i1 (by rw [e]; exact i3)
  have hi20 : i < 20 := by omega
  by_cases c1 : 0 ≤ a2
  · by_cases c2 : a2 ≤ 5
    · refine zop_ok (r := h.1 19 i) (h1 := zwi h 19 i a2) (h2 := zwi (zwi h 19 i a2) 80 i a2) ?_ ?_ ?_
      · simp only [s_X9_show, s_X4_changeShown, w1, Option.bind_some, reduceIte, z10, c1, c2, zuiA hi20 (by decide : 20 < 2 ^ 31), zriA hi20 (by decide : 20 < 2 ^ 31)]
      · simp only [s_X10_show, v1 (zwi h 19 i a2) k2, Option.bind_some, reduceIte, z10, c1, c2, zuiA hi20 (by decide : 20 < 2 ^ 31), zriA hi20 (by decide : 20 < 2 ^ 31), show (zwi h 19 i a2).1 80 i = h.1 19 i from congrFun x6.symm i]
      · refine ⟨t, nc, nk, nl, nt, np, h1, h2, ⟨⟨k1, k2, k3⟩, ⟨x1, x2, x3, x4, x5, ?_, x7⟩, y1, y2⟩, h4, h5, h6, h7, h8, h9⟩
        show upd (h.1 19) i a2 = upd (h.1 80) i a2
        rw [x6]
    · refine zop_r6 hI0 ?_ ?_
      · simp only [s_X9_show, w1, Option.bind_some, reduceIte, z10, c1, c2, zbq]
      · simp only [s_X10_show, v1 (zr1 h 6) k2, Option.bind_some, reduceIte, z10, c1, c2, zbq]
  · refine zop_r4 hI0 ?_ ?_
    · simp only [s_X9_show, w1, Option.bind_some, reduceIte, z10, c1, zbq]
    · simp only [s_X10_show, v1 (zr1 h 4) k2, Option.bind_some, reduceIte, z10, c1, zbq]

theorem zst_rng (f34 : Nat → Int32) (o : Option Nat) (a b : Int64) : ∃ s, s ≤ 5 ∧ zst f34 o a b = nI s := by
  cases o with
  | none => exact ⟨0, by decide, rfl⟩
  | some i =>
    unfold zst
    simp only
    split
    · split
      · split
        · split
          · exact ⟨1, by decide, rfl⟩
          · exact ⟨2, by decide, rfl⟩
        · exact ⟨3, by decide, rfl⟩
      · exact ⟨4, by decide, rfl⟩
    · exact ⟨5, by decide, rfl⟩
theorem zStar_rng (h : zHp) (nc nl nt : Nat) (a1 a2 a3 : Int32) : ∃ s, s ≤ 5 ∧ zStar h nc nl nt a1 a2 a3 = nI s := by
  unfold zStar
  cases zLa h nl a1 a2 a3 with
  | none => exact ⟨0, by decide, rfl⟩
  | some l => exact zst_rng _ _ _ _
theorem op_star (a1 a2 a3 : Int32) {h : zHp} (hI : zI h) : zop (s_X9_star a1 a2 a3) (s_X10_star a1 a2 a3) h := by
  have hI0 := hI
  obtain ⟨t, nc, nk, nl, nt, np, hN⟩ := hI
  obtain ⟨-, -, ⟨⟨k1, k2, k3⟩, -⟩, -⟩ := id hN
  rcases zix a1 (n := nk) (by omega) with ⟨hc, hc'⟩ | ⟨i, hi, rfl, i1, i2, i3⟩
  · refine zop_r1 hI0 ?_ ?_
    · simp only [s_X9_star, e_hX40 (by rw [k1]; exact hc), Option.bind_some, reduceIte, zbq]
    · simp only [s_X10_star, e_isKitchen0 (h := zr1 h 1) (by rw [zm67, k2]; exact hc'), Option.bind_some, reduceIte, zbq]
  have w1 : s_X4_has (nI i) h = some (1, h) := e_hX41 i1 (by rw [k1]; exact i2)
  have v1 : ∀ h' : zHp, h'.1 67 8 = nI nk → s_X10_isKitchen (nI i) h' = some (1, h') := fun h' e => e_isKitchen1 i1 (by rw [e]; exact i3)
  by_cases c1 : a2 < 0
  · refine zop_r4 hI0 ?_ ?_
    · simp only [s_X9_star, s_X9_star_L25, w1, Option.bind_some, reduceIte, zbq, z10, c1]
    · simp only [s_X10_star, s_X10_star_L22, v1 (zr1 h 4) k2, Option.bind_some, reduceIte, zbq, z10, c1]
  by_cases c2 : 0 ≤ a3
  · by_cases c3 : (1500 : Int32) < a2
    · refine zop_r6 hI0 ?_ ?_
      · simp only [s_X9_star, s_X9_star_L46, w1, Option.bind_some, reduceIte, zbq, z10, c1, c2, c3]
      · simp only [s_X10_star, s_X10_star_L43, s_X10_star_L59, v1 (zr1 h 6) k2, Option.bind_some, reduceIte, zbq, z10, c1, c2, c3]
    by_cases c4 : a3 ≤ 1500
    · obtain ⟨h1, q1, q2⟩ := e_starOf hN (nI i) a2 a3
      have ha3 : a3 < 1501 := by
        rw [Int32.le_iff_toInt_le] at c4; rw [Int32.lt_iff_toInt_lt]
        have e1 : (1500 : Int32).toInt = 1500 := by decide
        have e2 : (1501 : Int32).toInt = 1501 := by decide
        omega
      obtain ⟨h2, q3, q4⟩ := m_starOf (zIN_same q2 hN) (nI i) a2 ha3
      rw [zStar_same q2] at q3
      refine zop_ok (r := zStar h nc nl nt (nI i) a2 a3) (h1 := h1) (h2 := h2) ?_ ?_ (zI_same (q2.tr q4) hI0)
      · simp only [s_X9_star, w1, Option.bind_some, reduceIte, z10, c1, c2, c3, c4, q1]
      · simp only [s_X10_star, s_X10_star_L59, v1 h1 ((q2.2 8 (by decide) (by decide)).trans k2), Option.bind_some, reduceIte, z10, c1, c2, c3, c4, q3]
    · refine zop_r6 hI0 ?_ ?_
      · simp only [s_X9_star, s_X9_star_L46, w1, Option.bind_some, reduceIte, zbq, z10, c1, c2, c3, c4]
      · simp only [s_X10_star, s_X10_star_L43, s_X10_star_L59, v1 (zr1 h 6) k2, Option.bind_some, reduceIte, zbq, z10, c1, c2, c3, c4]
  · refine zop_r4 hI0 ?_ ?_
    · simp only [s_X9_star, s_X9_star_L25, w1, Option.bind_some, reduceIte, zbq, z10, c1, c2]
    · simp only [s_X10_star, s_X10_star_L22, v1 (zr1 h 4) k2, Option.bind_some, reduceIte, zbq, z10, c1, c2]
theorem ztlt {t : Nat} (ht : t ≤ 1500) : nI t < 1501 := nI_lt (b := 1501) (by omega) (by decide)
/-- how many kitchens show more than they have -/
def zfa (f19 : Nat → Int32) (S : Nat → Int32) : Nat → Nat
  | 0 => 0
  | i + 1 => zfa f19 S i + if f19 i ≤ S i then 0 else 1
theorem e_falses1 {h : zHp} {t nc nk nl nt np : Nat} (hN : zIN h t nc nk nl nt np) : ∀ m i f h1, i + m = nk → m < f → zSame h h1 → ∃ h2, s_X9_falses_L4 f (nI (zfa (h.1 19) (fun i => zStar h nc nl nt (nI i) (nI t) (nI t)) i)) (nI i) h1 = some (nI (zfa (h.1 19) (fun i => zStar h nc nl nt (nI i) (nI t) (nI t)) nk), h2) ∧ zSame h h2
  | 0, i, f + 1, h1, hm, hf, hs => by
    obtain rfl : i = nk := by omega
    have hN1 := zIN_same hs hN
    obtain ⟨-, -, ⟨⟨k1, k2, k3⟩, -⟩, -⟩ := hN1
    exact ⟨h1, by simp only [s_X9_falses_L4, s_X4_size, Option.bind_some, k1, nI_le (Nat.le_refl i) (show i < 2 ^ 31 by omega), reduceIte], hs⟩
  | m + 1, i, f + 1, h1, hm, hf, hs => by
    have hN1 := zIN_same hs hN
    obtain ⟨⟨d1, d2, d3⟩, -, ⟨⟨k1, k2, k3⟩, -⟩, -⟩ := id hN1
    have hi : i < nk := by omega
    have hi20 : i < 20 := by omega
    obtain ⟨h2, q1, q2⟩ := e_starOf hN1 (nI i) (nI t) (nI t)
    rw [zStar_same hs] at q1
    have hs2 := hs.tr q2
    obtain ⟨h3, r1, r2⟩ := e_falses1 hN m (i + 1) f h2 (by omega) (by omega) hs2
    refine ⟨h3, ?_, r2⟩
    have e19 : h1.1 19 i = h.1 19 i := congrFun (hs.1 19 (by decide)) i
    have w : s_X4_shownOn (nI i) h1 = some (h.1 19 i, h1) := by simp only [s_X4_shownOn, zriA hi20 (by decide : 20 < 2 ^ 31), Option.bind_some, e19]
    simp only [s_X9_falses_L4, s_X9_falses_L42, s_X4_size, Option.bind_some, k1, nI_ge hi (show nk < 2 ^ 31 by omega), reduceIte, w, d1, q1, nI_1]
    rw [zfa] at r1
    by_cases c : h.1 19 i ≤ zStar h nc nl nt (nI i) (nI t) (nI t)
    · simp only [c, reduceIte, Nat.add_zero] at r1 ⊢
      exact r1
    · simp only [c, reduceIte] at r1 ⊢
      exact r1
theorem m_falses1 {h : zHp} {t nc nk nl nt np : Nat} (hN : zIN h t nc nk nl nt np) : ∀ m i f h1, i + m = nk → m < f → zSame h h1 → ∃ h2, s_X10_falses_L4 f (nI (zfa (h.1 19) (fun i => zStar h nc nl nt (nI i) (nI t) (nI t)) i)) (nI i) h1 = some (nI (zfa (h.1 19) (fun i => zStar h nc nl nt (nI i) (nI t) (nI t)) nk), h2) ∧ zSame h h2
  | 0, i, f + 1, h1, hm, hf, hs => by
    obtain rfl : i = nk := by omega
    have hN1 := zIN_same hs hN
    obtain ⟨-, -, ⟨⟨k1, k2, k3⟩, -⟩, -⟩ := hN1
    exact ⟨h1, by simp only [s_X10_falses_L4, k2, nI_le (Nat.le_refl i) (show i < 2 ^ 31 by omega), reduceIte], hs⟩
  | m + 1, i, f + 1, h1, hm, hf, hs => by
    have hN1 := zIN_same hs hN
    obtain ⟨⟨d1, d2, d3⟩, -, ⟨⟨k1, k2, k3⟩, ⟨-, -, -, -, -, x6, -⟩, -⟩, -⟩ := id hN1
    have hi : i < nk := by omega
    have hi20 : i < 20 := by omega
    obtain ⟨h2, q1, q2⟩ := m_starOf hN1 (nI i) (nI t) (ztlt d3)
    rw [zStar_same hs] at q1
    have hs2 := hs.tr q2
    obtain ⟨h3, r1, r2⟩ := m_falses1 hN m (i + 1) f h2 (by omega) (by omega) hs2
    refine ⟨h3, ?_, r2⟩
    have e80 : h1.1 80 i = h.1 19 i := (congrFun x6.symm i).trans (congrFun (hs.1 19 (by decide)) i)
    simp only [s_X10_falses_L4, s_X10_falses_L40, Option.bind_some, k2, nI_ge hi (show nk < 2 ^ 31 by omega), reduceIte, zriA hi20 (by decide : 20 < 2 ^ 31), e80, d2, q1, nI_1]
    rw [zfa] at r1
    by_cases c : h.1 19 i ≤ zStar h nc nl nt (nI i) (nI t) (nI t)
    · simp only [c, reduceIte, Nat.add_zero] at r1 ⊢
      rw [show ∀ x : Int32, x + 0 = x from Int32.add_zero]
      exact r1
    · simp only [c, reduceIte] at r1 ⊢
      exact r1
theorem op_falses {h : zHp} (hI : zI h) : zop s_X9_falses s_X10_falses h := by
  have hI0 := hI
  obtain ⟨t, nc, nk, nl, nt, np, hN⟩ := hI
  have hk3 := hN.2.2.1.1.2.2
  obtain ⟨h1, q1, q2⟩ := e_falses1 hN nk 0 zFU h (by omega) (zFU_gt (by omega)) (zSame.rf h)
  obtain ⟨h2, q3, q4⟩ := m_falses1 hN nk 0 zFU h1 (by omega) (zFU_gt (by omega)) q2
  exact zop_ok (h1 := h1) (h2 := h2) q1 q3 (zI_same q4 hI0)
/-! ===== risk, due, the cost of delay ===== -/
def zRisk (h : zHp) (nc nl nt i : Nat) (t : Int32) : Nat := (h.1 3 (h.1 14 i).toNatClampNeg).toNatClampNeg + (h.1 16 i).toNatClampNeg / 50 + 8 * (if zStar h nc nl nt (nI i) t t = 0 then 3 else 5 - (zStar h nc nl nt (nI i) t t).toNatClampNeg)
theorem zdivA {a d : Nat} (ha : a < 2 ^ 31) (h0 : 0 < d) (hd : d < 2 ^ 31) : zdiv (nI a) (nI d) = some (nI (a / d)) := by
  unfold zdiv
  rw [if_neg (nI_ne0 h0 hd), pk_div ha h0 hd]
theorem zdiv50 {a : Nat} (ha : a < 2 ^ 31) : zdiv (nI a) 50 = some (nI (a / 50)) := zdivA (d := 50) ha (by decide) (by decide)
theorem zdiv10 {a : Nat} (ha : a < 2 ^ 31) : zdiv (nI a) 10 = some (nI (a / 10)) := zdivA (d := 10) ha (by decide) (by decide)
theorem zdiv30 {a : Nat} (ha : a < 2 ^ 31) : zdiv (nI a) 30 = some (nI (a / 30)) := zdivA (d := 30) ha (by decide) (by decide)
theorem zdiv400 {a : Nat} (h0 : 0 < a) (ha : a < 2 ^ 31) : zdiv 400 (nI a) = some (nI (400 / a)) := zdivA (a := 400) (by decide) h0 ha
theorem zRisk_rng {h : zHp} {t nc nk nl nt np i : Nat} (hN : zIN h t nc nk nl nt np) (hi : i < nk) : 1 ≤ zRisk h nc nl nt i (nI t) ∧ zRisk h nc nl nt i (nI t) ≤ 109 := by
  obtain ⟨-, -, ⟨-, -, y1, -⟩, -, ⟨-, -, -, -, x5, -⟩, -⟩ := hN
  obtain ⟨⟨a, a1, a2⟩, -, ⟨m, m1, m2, m3⟩, -, -⟩ := y1 i hi
  obtain ⟨b, b1, b2, b3⟩ := x5 a a1
  unfold zRisk
  rw [a2, nI_clamp (by omega), b3, nI_clamp (by omega), m3, nI_clamp (by omega)]
  have : m / 50 ≤ 19 := by omega
  split <;> omega
theorem e_risk {h : zHp} {t nc nk nl nt np i : Nat} (hN : zIN h t nc nk nl nt np) (hi : i < nk) : ∃ h1, s_X9_riskOf (nI i) h = some (nI (zRisk h nc nl nt i (nI t)), h1) ∧ zSame h h1 := by
  obtain ⟨⟨d1, d2, d3⟩, -, ⟨⟨k1, k2, k3⟩, -, y1, -⟩, -, ⟨-, -, -, -, x5, -⟩, -⟩ := id hN
  obtain ⟨⟨a, a1, a2⟩, -, ⟨m, m1, m2, m3⟩, -, -⟩ := y1 i hi
  obtain ⟨b, b1, b2, b3⟩ := x5 a a1
  obtain ⟨h1, q1, q2⟩ := e_starOf hN (nI i) (nI t) (nI t)
  obtain ⟨s, s1, s2⟩ := zStar_rng h nc nl nt (nI i) (nI t) (nI t)
  have hi20 : i < 20 := by omega
  refine ⟨h1, ?_, q2⟩
  have e16 : h1.1 16 i = nI m := (congrFun (q2.1 16 (by decide)) i).trans m3
  have e14 : h1.1 14 i = nI a := (congrFun (q2.1 14 (by decide)) i).trans a2
  have e3 : h1.1 3 a = nI b := (congrFun (q2.1 3 (by decide)) a).trans b3
  have e8 : (8 : Int32) = nI 8 := by decide
  have e5 : (5 : Int32) = nI 5 := by decide
  have e33 : (3 : Int32) = nI 3 := by decide
  unfold zRisk
  rw [a2, nI_clamp (by omega), b3, nI_clamp (by omega), m3, nI_clamp (by omega), s2]
  simp only [s_X9_riskOf, s_X9_riskOf_L25, d1, q1, Option.bind_some, s_X4_mouthsOf, s_X4_kindOf, zriA hi20 (by decide : 20 < 2 ^ 31), e16, e14, zdiv50 (show m < 2 ^ 31 by omega), zriA a1 (by decide : 4 < 2 ^ 31), e3, s2]
  by_cases c : s = 0
  · subst c
    simp only [show nI 0 = 0 from rfl, reduceIte]
    rw [e8, e33, pk_mul, nI_add, nI_add]
  · have c' : ¬ nI s = 0 := nI_ne0 (by omega) (by omega)
    simp only [c', reduceIte, nI_clamp (show s < 2 ^ 31 by omega)]
    rw [e8, e5, pk_sub s1, pk_mul, nI_add, nI_add]
theorem m_risk {h : zHp} {t nc nk nl nt np i : Nat} (hN : zIN h t nc nk nl nt np) (hi : i < nk) : ∃ h1, s_X10_riskOf (nI i) h = some (nI (zRisk h nc nl nt i (nI t)), h1) ∧ zSame h h1 := by
  obtain ⟨⟨d1, d2, d3⟩, -, ⟨⟨k1, k2, k3⟩, ⟨p1, -, p3, -⟩, y1, -⟩, -, ⟨-, -, -, x4, x5, -⟩, -⟩ := id hN
  obtain ⟨⟨a, a1, a2⟩, -, ⟨m, m1, m2, m3⟩, -, -⟩ := y1 i hi
  obtain ⟨b, b1, b2, b3⟩ := x5 a a1
  obtain ⟨h1, q1, q2⟩ := m_starOf hN (nI i) (nI t) (ztlt d3)
  obtain ⟨s, s1, s2⟩ := zStar_rng h nc nl nt (nI i) (nI t) (nI t)
  have hi20 : i < 20 := by omega
  refine ⟨h1, ?_, q2⟩
  have e16 : h1.1 76 i = nI m := (congrFun (q2.1 76 (by decide)) i).trans ((congrFun p3.symm i).trans m3)
  have e14 : h1.1 74 i = nI a := (congrFun (q2.1 74 (by decide)) i).trans ((congrFun p1.symm i).trans a2)
  have e3 : h1.1 92 a = nI b := (congrFun (q2.1 92 (by decide)) a).trans ((congrFun x4.symm a).trans b3)
  have e8 : (8 : Int32) = nI 8 := by decide
  have e5 : (5 : Int32) = nI 5 := by decide
  have e33 : (3 : Int32) = nI 3 := by decide
  unfold zRisk
  rw [a2, nI_clamp (by omega), b3, nI_clamp (by omega), m3, nI_clamp (by omega), s2]
  simp only [s_X10_riskOf, s_X10_riskOf_L48, d2, q1, Option.bind_some, zriA hi20 (by decide : 20 < 2 ^ 31), e16, e14, zdiv50 (show m < 2 ^ 31 by omega), zriA a1 (by decide : 4 < 2 ^ 31), e3, s2]
  by_cases c : s = 0
  · subst c
    simp only [show nI 0 = 0 from rfl, reduceIte]
    rw [e8, e33, pk_mul, nI_add, nI_add]
  · have c' : ¬ nI s = 0 := nI_ne0 (by omega) (by omega)
    simp only [c', reduceIte, nI_clamp (show s < 2 ^ 31 by omega)]
    rw [e8, e5, pk_sub s1, pk_mul, nI_add, nI_add]
theorem zRisk_same {h h' : zHp} (hs : zSame h h') (nc nl nt i : Nat) (t : Int32) : zRisk h' nc nl nt i t = zRisk h nc nl nt i t := by
  unfold zRisk
  rw [zStar_same hs, hs.1 3 (by decide), hs.1 14 (by decide), hs.1 16 (by decide)]
def zDue (h : zHp) (nl i r : Nat) (t : Int32) : Nat := match zLa h nl (nI i) t t with
  | none => 0
  | some l => (h.1 27 l).toNatClampNeg + (if 20 < 400 / r then 400 / r else 20)
theorem zDue_le {h : zHp} {t nc nk nl nt np i r : Nat} (hN : zIN h t nc nk nl nt np) (hr : 1 ≤ r) : zDue h nl i r (nI t) ≤ 1900 := by
  obtain ⟨⟨d1, d2, d3⟩, -, -, -, -, ⟨-, -, v1, -⟩, -⟩ := hN
  unfold zDue
  cases e : zLa h nl (nI i) (nI t) (nI t) with
  | none => exact Nat.zero_le _
  | some l =>
    obtain ⟨-, -, ⟨d, e1, e2⟩, -⟩ := v1 l (zlt_lt e).1
    have : 400 / r ≤ 400 := Nat.div_le_self _ _
    simp only [e2, nI_clamp (show d < 2 ^ 31 by omega)]
    split <;> omega
theorem e_due {h : zHp} {t nc nk nl nt np i r : Nat} (hN : zIN h t nc nk nl nt np) (hr : 1 ≤ r) (hr2 : r ≤ 109) : s_X9_dueOf (nI i) (nI r) h = some (nI (zDue h nl i r (nI t)), h) := by
  obtain ⟨⟨d1, d2, d3⟩, -, -, -, -, hl, -⟩ := id hN
  have w1 := e_latest hl d3 (nI i) (nI t) (nI t)
  unfold zDue
  simp only [s_X9_dueOf, d1, w1, Option.bind_some, s_X9_dueOf_L26]
  cases e : zLa h nl (nI i) (nI t) (nI t) with
  | none => simp only [zoi, zm1lt, reduceIte]; rfl
  | some l =>
    have hl3 := hl.1.2.2
    have hln := (zlt_lt e).1
    obtain ⟨-, -, ⟨d, e1, e2⟩, -⟩ := hl.2.2.1 l hln
    have hl80 : l < 80 := by omega
    have hq : 400 / r ≤ 400 := Nat.div_le_self _ _
    have w2 : s_X5_dayOf (nI l) h = some (nI d, h) := by simp only [s_X5_dayOf, zriA hl80 (by decide : 80 < 2 ^ 31), Option.bind_some, e2]
    simp only [zoi, nI_pos (show l < 2 ^ 31 by omega), reduceIte, show (1 : Int32) ≤ nI r from nI_le (a := 1) hr (by omega), w2, Option.bind_some, zdiv400 (show 0 < r by omega) (show r < 2 ^ 31 by omega), s_J9_max_7cf53, s_J9_max_7cf53_L10, e2, nI_clamp (show d < 2 ^ 31 by omega)]
    by_cases c : 20 < 400 / r
    · simp only [show (20 : Int32) < nI (400 / r) from nI_lt (a := 20) c (by omega), c, reduceIte, Option.bind_some, nI_add]
    · simp only [show ¬ (20 : Int32) < nI (400 / r) from nI_nlt (a := 20) (by omega) (by decide), c, reduceIte, Option.bind_some]
      rw [show (20 : Int32) = nI 20 from by decide, nI_add]
theorem m_due {h : zHp} {t nc nk nl nt np i : Nat} (hN : zIN h t nc nk nl nt np) (hi : i < nk) : ∃ h1, s_X10_dueOf (nI i) h = some (nI (zDue h nl i (zRisk h nc nl nt i (nI t)) (nI t)), h1) ∧ zSame h h1 := by
  obtain ⟨⟨d1, d2, d3⟩, -, -, -, -, hl, -⟩ := id hN
  have w1 := m_latest hl d3 (nI i) (nI t) (ztlt d3)
  obtain ⟨h1, q1, q2⟩ := m_risk hN hi
  obtain ⟨r1, r2⟩ := zRisk_rng hN hi
  generalize zRisk h nc nl nt i (nI t) = r at q1 r1 r2 ⊢
  refine ⟨h1, ?_, q2⟩
  unfold zDue
  simp only [s_X10_dueOf, d2, w1, q1, Option.bind_some, zdiv400 (show 0 < r by omega) (show r < 2 ^ 31 by omega)]
  cases e : zLa h nl (nI i) (nI t) (nI t) with
  | none => simp only [zoi, zm1ge, reduceIte, s_X10_dueOf_L51]; rfl
  | some l =>
    have hl3 := hl.1.2.2
    have hln := (zlt_lt e).1
    obtain ⟨-, -, ⟨d, e1, e2⟩, -⟩ := hl.2.2.1 l hln
    have hl80 : l < 80 := by omega
    have hq : 400 / r ≤ 400 := Nat.div_le_self _ _
    have e84 : h1.1 84 l = nI d := (congrFun (q2.1 84 (by decide)) l).trans ((congrFun hl.2.1.2.2.1.symm l).trans e2)
    simp only [zoi, zge0 (show l < 2 ^ 31 by omega), reduceIte, zriA hl80 (by decide : 80 < 2 ^ 31), e84, Option.bind_some, s_X10_dueOf_L51, s_X10_dueOf_L50, e2, nI_clamp (show d < 2 ^ 31 by omega)]
    by_cases c : 20 < 400 / r
    · simp only [show (20 : Int32) ≤ nI (400 / r) from nI_le (a := 20) (by omega) (by omega), c, reduceIte, nI_add]
    · by_cases c2 : 400 / r = 20
      · simp only [c2, show (20 : Int32) ≤ nI 20 from by decide, reduceIte, show ¬ 20 < 20 from by decide, nI_add]
      · simp only [show ¬ (20 : Int32) ≤ nI (400 / r) from nI_ge (b := 20) (by omega) (by decide), c, reduceIte]
        rw [show (20 : Int32) = nI 20 from by decide, nI_add]
theorem zDue_same {h h' : zHp} (hs : zSame h h') (nl i r : Nat) (t : Int32) : zDue h' nl i r t = zDue h nl i r t := by
  unfold zDue
  rw [zLa_same hs, hs.1 27 (by decide)]
theorem op_risk (a1 a2 : Int32) {h : zHp} (hI : zI h) : zop (s_X9_risk a1 a2) (s_X10_risk a1 a2) h := by
  have hI0 := hI
  obtain ⟨t, nc, nk, nl, nt, np, hN⟩ := hI
  obtain ⟨-, -, ⟨⟨k1, k2, k3⟩, -⟩, -⟩ := id hN
  rcases zix a1 (n := nk) (by omega) with ⟨hc, hc'⟩ | ⟨i, hi, rfl, i1, i2, i3⟩
  · refine zop_r1 hI0 ?_ ?_
    · simp only [s_X9_risk, e_hX40 (by rw [k1]; exact hc), Option.bind_some, reduceIte, zbq]
    · simp only [s_X10_risk, e_isKitchen0 (h := zr1 h 1) (by rw [zm67, k2]; exact hc'), Option.bind_some, reduceIte, zbq]
  have w1 : s_X4_has (nI i) h = some (1, h) := e_hX41 i1 (by rw [k1]; exact i2)
  have v1 : ∀ h' : zHp, h'.1 67 8 = nI nk → s_X10_isKitchen (nI i) h' = some (1, h') := fun h' e => e_isKitchen1 i1 (by rw [e]; exact i3)
  obtain ⟨h1, q1, q2⟩ := e_risk hN hi
  have hk1 : h1.1 67 8 = nI nk := (q2.2 8 (by decide) (by decide)).trans k2
  by_cases c1 : a2 = 0
  · subst c1
    obtain ⟨h2, q3, q4⟩ := m_risk (zIN_same q2 hN) hi
    rw [zRisk_same q2] at q3
    refine zop_ok (h1 := h1) (h2 := h2) (r := nI (zRisk h nc nl nt i (nI t))) ?_ ?_ (zI_same (q2.tr q4) hI0)
    · simp only [s_X9_risk, w1, q1, Option.bind_some, reduceIte, z10]
    · simp only [s_X10_risk, s_X10_risk_L47, v1 h1 hk1, e_in1 (a := 0) (b := 0) (c := 1) (h := h1) (by decide) (by decide), q3, Option.bind_some, reduceIte, z10]
  by_cases c2 : a2 = 1
  · subst c2
    obtain ⟨r1, r2⟩ := zRisk_rng hN hi
    have w2 := e_due (i := i) (zIN_same q2 hN) r1 r2
    rw [zDue_same q2] at w2
    obtain ⟨h2, q3, q4⟩ := m_due (zIN_same q2 hN) hi
    rw [zDue_same q2, zRisk_same q2] at q3
    refine zop_ok (h1 := h1) (h2 := h2) (r := nI (zDue h nl i (zRisk h nc nl nt i (nI t)) (nI t))) ?_ ?_ (zI_same (q2.tr q4) hI0)
    · simp only [s_X9_risk, w1, q1, Option.bind_some, reduceIte, z10, w2]
    · simp only [s_X10_risk, s_X10_risk_L47, v1 h1 hk1, e_in1 (a := 1) (b := 0) (c := 1) (h := h1) (by decide) (by decide), q3, Option.bind_some, reduceIte, z10]
  · have hbad : a2 < 0 ∨ 1 < a2 := by
      rcases zix a2 (n := 2) (by decide) with ⟨-, z⟩ | ⟨j, j1, j2, -⟩
      · exact z
      · rcases (show j = 0 ∨ j = 1 by omega) with rfl | rfl
        · exact absurd j2 c1
        · exact absurd j2 c2
    refine zop_r2 hI0 ?_ ?_
    · simp only [s_X9_risk, w1, Option.bind_some, reduceIte, zbq, z10, c1, c2]
    · simp only [s_X10_risk, v1 (zr1 h 2) k2, e_in0 (b := 0) (c := 1) (h := zr1 h 2) hbad, Option.bind_some, reduceIte, zbq, z10]
/-- the cost of being so much behind -/
def zgr : Nat → Nat → Nat
  | 0, c => c
  | n + 1, c => zgr n (c + c / 10)
def zCost (r b : Nat) : Nat := zgr (b / 30) (r * b)
theorem zgr_le : ∀ n c, zgr n c * 10 ^ n ≤ c * 11 ^ n
  | 0, c => by simp [zgr]
  | n + 1, c => by
    have ih := zgr_le n (c + c / 10)
    have h1 : (c + c / 10) * 10 ≤ c * 11 := by omega
    calc zgr (n + 1) c * 10 ^ (n + 1) = (zgr n (c + c / 10) * 10 ^ n) * 10 := by rw [zgr, Nat.pow_succ, Nat.mul_assoc]
      _ ≤ ((c + c / 10) * 11 ^ n) * 10 := Nat.mul_le_mul_right _ ih
      _ = ((c + c / 10) * 10) * 11 ^ n := by rw [Nat.mul_right_comm]
      _ ≤ (c * 11) * 11 ^ n := Nat.mul_le_mul_right _ h1
      _ = c * 11 ^ (n + 1) := by rw [Nat.pow_succ, Nat.mul_assoc, Nat.mul_comm 11]
theorem zgr_bd {n c M : Nat} (hn : n ≤ 50) (hM : c * 11 ^ 50 < (M + 1) * 10 ^ 50) : zgr n c ≤ M := by
  have h1 := zgr_le n c
  obtain ⟨k, hk⟩ := Nat.exists_eq_add_of_le hn
  have h2 : zgr n c * 10 ^ 50 ≤ c * 11 ^ 50 := by
    have e10 : (10 : Nat) ^ 50 = 10 ^ n * 10 ^ k := by rw [← Nat.pow_add, ← hk]
    have e11 : (11 : Nat) ^ 50 = 11 ^ n * 11 ^ k := by rw [← Nat.pow_add, ← hk]
    rw [e10, e11, ← Nat.mul_assoc, ← Nat.mul_assoc]
    exact Nat.mul_le_mul h1 (Nat.pow_le_pow_left (by decide) k)
  have h3 : zgr n c * 10 ^ 50 < (M + 1) * 10 ^ 50 := Nat.lt_of_le_of_lt h2 hM
  have := Nat.lt_of_mul_lt_mul_right h3
  omega
theorem zCost_le {r b : Nat} (hr : r ≤ 109) (hb : b ≤ 1507) : zCost r b ≤ 20000000 := by
  refine zgr_bd (by omega) ?_
  have h1 : r * b ≤ 109 * 1507 := Nat.mul_le_mul hr hb
  exact Nat.lt_of_le_of_lt (Nat.mul_le_mul_right _ h1) (by decide)
theorem zgr_add : ∀ n c, zgr (n + 1) c = zgr n c + zgr n c / 10
  | 0, c => rfl
  | n + 1, c => by
    show zgr (n + 1) (c + c / 10) = zgr n (c + c / 10) + zgr n (c + c / 10) / 10
    exact zgr_add n (c + c / 10)
theorem zgr_mono : ∀ {n m : Nat} (c : Nat), n ≤ m → zgr n c ≤ zgr m c := by
  intro n m c h
  induction h with
  | refl => exact Nat.le_refl _
  | step _ ih => rw [zgr_add]; omega
def zDc (r due day : Nat) : Nat := if due < day then zCost r (day - due) else 0
theorem zDc_le {r due day : Nat} (hr : r ≤ 109) (hd : day ≤ 1507) : zDc r due day ≤ 20000000 := by
  unfold zDc
  split
  · exact zCost_le hr (by omega)
  · omega
theorem e_dcost1 {h : zHp} {S : Nat} (hS : S ≤ 50) {c0 : Nat} (hc : ∀ k, k ≤ S → zgr k c0 ≤ 20000000) : ∀ m k f, k + m = S → m < f → s_X9_delayCost_L24 f (nI (zgr k c0)) (nI S) (nI k) h = some (nI (zgr S c0), h)
  | 0, k, f + 1, hm, hf => by
    obtain rfl : k = S := by omega
    simp only [s_X9_delayCost_L24, nI_le (Nat.le_refl k) (show k < 2 ^ 31 by omega), reduceIte]
  | m + 1, k, f + 1, hm, hf => by
    have ih := e_dcost1 (h := h) hS hc m (k + 1) f (by omega) (by omega)
    have hk := hc k (by omega)
    rw [zgr_add] at ih
    simp only [s_X9_delayCost_L24, nI_ge (show k < S by omega) (show S < 2 ^ 31 by omega), reduceIte, zdiv10 (show zgr k c0 < 2 ^ 31 by omega), Option.bind_some, nI_add, nI_1]
    exact ih
theorem e_dcost {h : zHp} {r due day : Nat} (hr : r ≤ 109) (hdue : due ≤ 1900) (hd : day ≤ 1507) : s_X9_delayCost (nI r) (nI due) (nI day) h = some (nI (zDc r due day), h) := by
  unfold zDc s_X9_delayCost
  by_cases c : due < day
  · have hb : zCost r (day - due) ≤ 20000000 := zCost_le hr (by omega)
    have hc : ∀ k, k ≤ (day - due) / 30 → zgr k (r * (day - due)) ≤ 20000000 := fun k hk => Nat.le_trans (zgr_mono _ hk) hb
    have := e_dcost1 (h := h) (S := (day - due) / 30) (by omega) hc ((day - due) / 30) 0 zFU (by omega) (zFU_gt (by omega))
    rw [nI_0, show zgr 0 (r * (day - due)) = r * (day - due) from rfl] at this
    simp only [nI_lt c (show day < 2 ^ 31 by omega), c, reduceIte, pk_sub (show due ≤ day by omega), pk_mul, Option.bind_some, zdiv30 (show day - due < 2 ^ 31 by omega), zCost]
    exact this
  · simp only [nI_nlt (show day ≤ due by omega) (show due < 2 ^ 31 by omega), c, reduceIte]
    rfl
theorem m_dcost1 {h : zHp} {b S : Nat} (hb : b ≤ 1507) (hSb : b / 30 = S) {c0 : Nat} (hc : ∀ k, k ≤ S → zgr k c0 ≤ 20000000) : ∀ m k f, k + m = S → m < f → s_X10_costOf_L26 f (nI b) (nI (zgr k c0)) (nI k) h = some (nI (zgr S c0), h)
  | 0, k, f + 1, hm, hf => by
    obtain rfl : k = S := by omega
    simp only [s_X10_costOf_L26, zdiv30 (show b < 2 ^ 31 by omega), hSb, Option.bind_some, nI_le (Nat.le_refl k) (show k < 2 ^ 31 by omega), reduceIte]
  | m + 1, k, f + 1, hm, hf => by
    have ih := m_dcost1 (h := h) hb hSb hc m (k + 1) f (by omega) (by omega)
    have hk := hc k (by omega)
    rw [zgr_add] at ih
    simp only [s_X10_costOf_L26, zdiv30 (show b < 2 ^ 31 by omega), hSb, nI_ge (show k < S by omega) (show S < 2 ^ 31 by omega), reduceIte, zdiv10 (show zgr k c0 < 2 ^ 31 by omega), Option.bind_some, nI_add, nI_1]
    exact ih
theorem nI_sub_pos {a b : Nat} (ha : a < 2 ^ 30) (hb : b < 2 ^ 30) : 0 < nI a - nI b ↔ b < a := by
  rw [Int32.lt_iff_toInt_lt, pk_sub_toInt ha hb, Int32.toInt_zero]; omega
theorem m_costA {h h1 h2 : zHp} {i r due day : Nat} (r2 : r ≤ 109) (hdue : due ≤ 1900) (hd : day ≤ 1507) (q1 : s_X10_dueOf (nI i) h = some (nI due, h1)) (q3 : s_X10_riskOf (nI i) h1 = some (nI r, h2)) (c : due < day) : s_X10_costOf (nI i) (nI day) h = some (nI (zCost r (day - due)), h2) := by
  have hb : zCost r (day - due) ≤ 20000000 := zCost_le r2 (by omega)
  have hc : ∀ k, k ≤ (day - due) / 30 → zgr k (r * (day - due)) ≤ 20000000 := fun k hk => Nat.le_trans (zgr_mono _ hk) hb
  have key := m_dcost1 (h := h2) (b := day - due) (by omega) rfl hc ((day - due) / 30) 0 zFU (by omega) (zFU_gt (by omega))
  rw [nI_0, show zgr 0 (r * (day - due)) = r * (day - due) from rfl] at key
  unfold s_X10_costOf
  rw [zbs q1, zbs rfl, pk_sub (show due ≤ day by omega), if_pos (show (0 : Int32) < nI (day - due) from nI_lt (a := 0) (by omega) (by omega)), zbs q3, zbs rfl, pk_mul, key, zCost]
theorem m_costB {h h1 : zHp} {i due day : Nat} (hdue : due ≤ 1900) (hd : day ≤ 1507) (q1 : s_X10_dueOf (nI i) h = some (nI due, h1)) (c : ¬ due < day) : s_X10_costOf (nI i) (nI day) h = some (0, h1) := by
  unfold s_X10_costOf
  rw [zbs q1, zbs rfl, if_neg (show ¬ 0 < nI day - nI due from fun z => c ((nI_sub_pos (by omega) (by omega)).mp z))]
theorem m_cost {h : zHp} {t nc nk nl nt np i day : Nat} (hN : zIN h t nc nk nl nt np) (hi : i < nk) (hd : day ≤ 1507) : ∃ h1, s_X10_costOf (nI i) (nI day) h = some (nI (zDc (zRisk h nc nl nt i (nI t)) (zDue h nl i (zRisk h nc nl nt i (nI t)) (nI t)) day), h1) ∧ zSame h h1 := by
  obtain ⟨h1, q1, q2⟩ := m_due hN hi
  obtain ⟨r1, r2⟩ := zRisk_rng hN hi
  obtain ⟨h2, q3, q4⟩ := m_risk (zIN_same q2 hN) hi
  rw [zRisk_same q2] at q3
  have hdue := zDue_le (i := i) hN r1
  by_cases c : zDue h nl i (zRisk h nc nl nt i (nI t)) (nI t) < day
  · exact ⟨h2, by rw [zDc, if_pos c]; exact m_costA r2 hdue hd q1 q3 c, q2.tr q4⟩
  · exact ⟨h1, by rw [zDc, if_neg c]; exact m_costB hdue hd q1 c, q2⟩
theorem op_delay (a1 a2 : Int32) {h : zHp} (hI : zI h) : zop (s_X9_delay a1 a2) (s_X10_delay a1 a2) h := by
  have hI0 := hI
  obtain ⟨t, nc, nk, nl, nt, np, hN⟩ := hI
  obtain ⟨-, -, ⟨⟨k1, k2, k3⟩, -⟩, -⟩ := id hN
  rcases zix a1 (n := nk) (by omega) with ⟨hc, hc'⟩ | ⟨i, hi, rfl, i1, i2, i3⟩
  · refine zop_r1 hI0 ?_ ?_
    · simp only [s_X9_delay, e_hX40 (by rw [k1]; exact hc), Option.bind_some, reduceIte, zbq]
    · simp only [s_X10_delay, e_isKitchen0 (h := zr1 h 1) (by rw [zm67, k2]; exact hc'), Option.bind_some, reduceIte, zbq]
  have w1 : s_X4_has (nI i) h = some (1, h) := e_hX41 i1 (by rw [k1]; exact i2)
  have v1 : ∀ h' : zHp, h'.1 67 8 = nI nk → s_X10_isKitchen (nI i) h' = some (1, h') := fun h' e => e_isKitchen1 i1 (by rw [e]; exact i3)
  by_cases c1 : 0 ≤ a2
  · by_cases c2 : a2 ≤ 1500
    · obtain ⟨d, p1, p2, rfl⟩ : ∃ p, 0 ≤ p ∧ p ≤ 1500 ∧ a2 = nI p := by
        rw [Int32.le_iff_toInt_le] at c1 c2
        exact znat (a := 0) (b := 1500) c1 c2
      obtain ⟨h1, q1, q2⟩ := e_risk hN hi
      obtain ⟨r1, r2⟩ := zRisk_rng hN hi
      have w2 := e_due (i := i) (zIN_same q2 hN) r1 r2
      rw [zDue_same q2] at w2
      have w3 := e_dcost (h := h1) (day := d) r2 (zDue_le (i := i) hN r1) (by omega)
      obtain ⟨h2, q3, q4⟩ := m_cost (day := d) (zIN_same q2 hN) hi (by omega)
      rw [zDue_same q2, zRisk_same q2] at q3
      refine zop_ok (h1 := h1) (h2 := h2) (r := nI (zDc (zRisk h nc nl nt i (nI t)) (zDue h nl i (zRisk h nc nl nt i (nI t)) (nI t)) d)) ?_ ?_ (zI_same (q2.tr q4) hI0)
      · simp only [s_X9_delay, w1, Option.bind_some, reduceIte, z10, c1, c2, q1, w2, w3]
      · simp only [s_X10_delay, s_X10_delay_L38, s_X10_wrongDay, s_X10_wrongDay_L22, v1 h1 ((q2.2 8 (by decide) (by decide)).trans k2), Option.bind_some, reduceIte, z10, c1, c2, q3, show (0 : Int32) ≤ 0 from by decide]
    · refine zop_r6 hI0 ?_ ?_
      · simp only [s_X9_delay, w1, Option.bind_some, reduceIte, z10, c1, c2, zbq]
      · simp only [s_X10_delay, s_X10_delay_L38, s_X10_wrongDay, s_X10_wrongDay_L22, v1 (zr1 h 6) k2, Option.bind_some, reduceIte, z10, c1, c2, show ¬ (0 : Int32) ≤ -6 from by decide, zbq]
  · refine zop_r4 hI0 ?_ ?_
    · simp only [s_X9_delay, w1, Option.bind_some, reduceIte, z10, c1, zbq]
    · simp only [s_X10_delay, s_X10_delay_L38, s_X10_wrongDay, s_X10_wrongDay_L22, v1 (zr1 h 4) k2, Option.bind_some, reduceIte, z10, c1, show ¬ (0 : Int32) ≤ -4 from by decide, zbq]

/-! ===== rounds: stars, risks and costs work in one cell ===== -/
theorem zgk_but (h : zHp) (k : Nat) (F : Nat → Int32) : zbut k h (zgk h k F) := ⟨fun _ hj => zgk_ne h F hj, rfl⟩
theorem zbut.same {c : Nat} {h h' : zHp} (b : zbut c h h') (hc : zscr c = true) (h67 : c ≠ 67) : zSame h h' := ⟨fun k hk => b.1 k (fun z => by rw [z, hc] at hk; cases hk), fun j _ _ => by rw [b.1 67 (fun z => h67 z.symm)]⟩
theorem e_starOfQ {h : zHp} {t nc nk nl nt np : Nat} (hN : zIN h t nc nk nl nt np) (a1 a2 a3 : Int32) : ∃ h1, s_X9_starOf a1 a2 a3 h = some (zStar h nc nl nt a1 a2 a3, h1) ∧ zbut 31 h h1 := by
  obtain ⟨⟨d1, d2, d3⟩, hc, -, -, -, hl, ht, -, -⟩ := hN
  have w1 := e_latest hl d3 a1 a2 a3
  unfold s_X9_starOf zStar
  rw [zbs w1]
  cases e : zLa h nl a1 a2 a3 with
  | none => exact ⟨h, by simp only [zoi, zm1ge, reduceIte], zbut.rf 31 h⟩
  | some l =>
    have hln := (zlt_lt e).1
    have hl3 := hl.1.2.2
    have hl80 : l < 80 := by omega
    obtain ⟨F, q1⟩ := e_score (d := h.1 27 l) hc hl.2.2.2.2.1 hl80
    have w2 : s_X5_dayOf (nI l) h = some (h.1 27 l, h) := by simp only [s_X5_dayOf, zriA hl80 (by decide : 80 < 2 ^ 31), Option.bind_some]
    have w3 := e_starOn (h := zgk h 31 F) ht (h.1 27 l) (nI (zScore h nc l (h.1 27 l))).toInt64 1
    refine ⟨zgk h 31 F, ?_, zgk_but h 31 F⟩
    simp only [zoi, zge0 (show l < 2 ^ 31 by omega), reduceIte, w2, Option.bind_some, q1, w3]
    rfl
theorem e_riskQ {h : zHp} {t nc nk nl nt np i : Nat} (hN : zIN h t nc nk nl nt np) (hi : i < nk) : ∃ h1, s_X9_riskOf (nI i) h = some (nI (zRisk h nc nl nt i (nI t)), h1) ∧ zbut 31 h h1 := by
  obtain ⟨⟨d1, d2, d3⟩, -, ⟨⟨k1, k2, k3⟩, -, y1, -⟩, -, ⟨-, -, -, -, x5, -⟩, -⟩ := id hN
  obtain ⟨⟨a, a1, a2⟩, -, ⟨m, m1, m2, m3⟩, -, -⟩ := y1 i hi
  obtain ⟨b, b1, b2, b3⟩ := x5 a a1
  obtain ⟨h1, q1, q2⟩ := e_starOfQ hN (nI i) (nI t) (nI t)
  obtain ⟨s, s1, s2⟩ := zStar_rng h nc nl nt (nI i) (nI t) (nI t)
  have hi20 : i < 20 := by omega
  refine ⟨h1, ?_, q2⟩
  have e16 : h1.1 16 i = nI m := (congrFun (q2.1 16 (by decide)) i).trans m3
  have e14 : h1.1 14 i = nI a := (congrFun (q2.1 14 (by decide)) i).trans a2
  have e3 : h1.1 3 a = nI b := (congrFun (q2.1 3 (by decide)) a).trans b3
  have e8 : (8 : Int32) = nI 8 := by decide
  have e5 : (5 : Int32) = nI 5 := by decide
  have e33 : (3 : Int32) = nI 3 := by decide
  unfold zRisk
  rw [a2, nI_clamp (by omega), b3, nI_clamp (by omega), m3, nI_clamp (by omega), s2]
  simp only [s_X9_riskOf, s_X9_riskOf_L25, d1, q1, Option.bind_some, s_X4_mouthsOf, s_X4_kindOf, zriA hi20 (by decide : 20 < 2 ^ 31), e16, e14, zdiv50 (show m < 2 ^ 31 by omega), zriA a1 (by decide : 4 < 2 ^ 31), e3, s2]
  by_cases c : s = 0
  · subst c
    simp only [show nI 0 = 0 from rfl, reduceIte]
    rw [e8, e33, pk_mul, nI_add, nI_add]
  · have c' : ¬ nI s = 0 := nI_ne0 (by omega) (by omega)
    simp only [c', reduceIte, nI_clamp (show s < 2 ^ 31 by omega)]
    rw [e8, e5, pk_sub s1, pk_mul, nI_add, nI_add]
theorem m_starOfQ {h : zHp} {t nc nk nl nt np : Nat} (hN : zIN h t nc nk nl nt np) (a1 a2 : Int32) {a3 : Int32} (ha3 : a3 < 1501) : ∃ h1, s_X10_starOf a1 a2 a3 h = some (zStar h nc nl nt a1 a2 a3, h1) ∧ zbut 89 h h1 := by
  obtain ⟨⟨d1, d2, d3⟩, hc, -, -, -, hl, ht, -, -⟩ := hN
  have w1 := m_latest hl d3 a1 a2 ha3
  unfold s_X10_starOf zStar
  rw [zbs w1]
  cases e : zLa h nl a1 a2 a3 with
  | none => exact ⟨h, by simp only [zoi, zm1ge, reduceIte, s_X10_starOf_L44], zbut.rf 89 h⟩
  | some l =>
    have hln := (zlt_lt e).1
    have hl3 := hl.1.2.2
    have hl80 : l < 80 := by omega
    obtain ⟨F, q1⟩ := m_score (d := h.1 27 l) hc hl.2.1.2.2.2.2 hl.2.2.2.2.1 hl80
    have e84 : h.1 84 l = h.1 27 l := congrFun hl.2.1.2.2.1.symm l
    have w3 := m_starBy (h := zgk h 89 F) ht (h.1 27 l) (nI (zScore h nc l (h.1 27 l))).toInt64 1
    refine ⟨zgk h 89 F, ?_, zgk_but h 89 F⟩
    simp only [zoi, zge0 (show l < 2 ^ 31 by omega), reduceIte, zriA hl80 (by decide : 80 < 2 ^ 31), Option.bind_some, e84, q1, show (zgk h 89 F).1 84 l = h.1 27 l from e84, w3, s_X10_starOf_L44]
    rfl
theorem m_riskQ {h : zHp} {t nc nk nl nt np i : Nat} (hN : zIN h t nc nk nl nt np) (hi : i < nk) : ∃ h1, s_X10_riskOf (nI i) h = some (nI (zRisk h nc nl nt i (nI t)), h1) ∧ zbut 89 h h1 := by
  obtain ⟨⟨d1, d2, d3⟩, -, ⟨⟨k1, k2, k3⟩, ⟨p1, -, p3, -⟩, y1, -⟩, -, ⟨-, -, -, x4, x5, -⟩, -⟩ := id hN
  obtain ⟨⟨a, a1, a2⟩, -, ⟨m, m1, m2, m3⟩, -, -⟩ := y1 i hi
  obtain ⟨b, b1, b2, b3⟩ := x5 a a1
  obtain ⟨h1, q1, q2⟩ := m_starOfQ hN (nI i) (nI t) (ztlt d3)
  obtain ⟨s, s1, s2⟩ := zStar_rng h nc nl nt (nI i) (nI t) (nI t)
  have hi20 : i < 20 := by omega
  refine ⟨h1, ?_, q2⟩
  have e16 : h1.1 76 i = nI m := (congrFun (q2.1 76 (by decide)) i).trans ((congrFun p3.symm i).trans m3)
  have e14 : h1.1 74 i = nI a := (congrFun (q2.1 74 (by decide)) i).trans ((congrFun p1.symm i).trans a2)
  have e3 : h1.1 92 a = nI b := (congrFun (q2.1 92 (by decide)) a).trans ((congrFun x4.symm a).trans b3)
  have e8 : (8 : Int32) = nI 8 := by decide
  have e5 : (5 : Int32) = nI 5 := by decide
  have e33 : (3 : Int32) = nI 3 := by decide
  unfold zRisk
  rw [a2, nI_clamp (by omega), b3, nI_clamp (by omega), m3, nI_clamp (by omega), s2]
  simp only [s_X10_riskOf, s_X10_riskOf_L48, d2, q1, Option.bind_some, zriA hi20 (by decide : 20 < 2 ^ 31), e16, e14, zdiv50 (show m < 2 ^ 31 by omega), zriA a1 (by decide : 4 < 2 ^ 31), e3, s2]
  by_cases c : s = 0
  · subst c
    simp only [show nI 0 = 0 from rfl, reduceIte]
    rw [e8, e33, pk_mul, nI_add, nI_add]
  · have c' : ¬ nI s = 0 := nI_ne0 (by omega) (by omega)
    simp only [c', reduceIte, nI_clamp (show s < 2 ^ 31 by omega)]
    rw [e8, e5, pk_sub s1, pk_mul, nI_add, nI_add]
theorem m_dueQ {h : zHp} {t nc nk nl nt np i : Nat} (hN : zIN h t nc nk nl nt np) (hi : i < nk) : ∃ h1, s_X10_dueOf (nI i) h = some (nI (zDue h nl i (zRisk h nc nl nt i (nI t)) (nI t)), h1) ∧ zbut 89 h h1 := by
  obtain ⟨⟨d1, d2, d3⟩, -, -, -, -, hl, -⟩ := id hN
  have w1 := m_latest hl d3 (nI i) (nI t) (ztlt d3)
  obtain ⟨h1, q1, q2⟩ := m_riskQ hN hi
  obtain ⟨r1, r2⟩ := zRisk_rng hN hi
  generalize zRisk h nc nl nt i (nI t) = r at q1 r1 r2 ⊢
  refine ⟨h1, ?_, q2⟩
  unfold zDue
  simp only [s_X10_dueOf, d2, w1, q1, Option.bind_some, zdiv400 (show 0 < r by omega) (show r < 2 ^ 31 by omega)]
  cases e : zLa h nl (nI i) (nI t) (nI t) with
  | none => simp only [zoi, zm1ge, reduceIte, s_X10_dueOf_L51]; rfl
  | some l =>
    have hl3 := hl.1.2.2
    have hln := (zlt_lt e).1
    obtain ⟨-, -, ⟨d, e1, e2⟩, -⟩ := hl.2.2.1 l hln
    have hl80 : l < 80 := by omega
    have hq : 400 / r ≤ 400 := Nat.div_le_self _ _
    have e84 : h1.1 84 l = nI d := (congrFun (q2.1 84 (by decide)) l).trans ((congrFun hl.2.1.2.2.1.symm l).trans e2)
    simp only [zoi, zge0 (show l < 2 ^ 31 by omega), reduceIte, zriA hl80 (by decide : 80 < 2 ^ 31), e84, Option.bind_some, s_X10_dueOf_L51, s_X10_dueOf_L50, e2, nI_clamp (show d < 2 ^ 31 by omega)]
    by_cases c : 20 < 400 / r
    · simp only [show (20 : Int32) ≤ nI (400 / r) from nI_le (a := 20) (by omega) (by omega), c, reduceIte, nI_add]
    · by_cases c2 : 400 / r = 20
      · simp only [c2, show (20 : Int32) ≤ nI 20 from by decide, reduceIte, show ¬ 20 < 20 from by decide, nI_add]
      · simp only [show ¬ (20 : Int32) ≤ nI (400 / r) from nI_ge (b := 20) (by omega) (by decide), c, reduceIte]
        rw [show (20 : Int32) = nI 20 from by decide, nI_add]
theorem m_costQ {h : zHp} {t nc nk nl nt np i day : Nat} (hN : zIN h t nc nk nl nt np) (hi : i < nk) (hd : day ≤ 1507) : ∃ h1, s_X10_costOf (nI i) (nI day) h = some (nI (zDc (zRisk h nc nl nt i (nI t)) (zDue h nl i (zRisk h nc nl nt i (nI t)) (nI t)) day), h1) ∧ zbut 89 h h1 := by
  obtain ⟨h1, q1, q2⟩ := m_dueQ hN hi
  obtain ⟨r1, r2⟩ := zRisk_rng hN hi
  obtain ⟨h2, q3, q4⟩ := m_riskQ (zIN_same (q2.same (by decide) (by decide)) hN) hi
  rw [zRisk_same (q2.same (by decide) (by decide))] at q3
  have hdue := zDue_le (i := i) hN r1
  by_cases c : zDue h nl i (zRisk h nc nl nt i (nI t)) (nI t) < day
  · exact ⟨h2, by rw [zDc, if_pos c]; exact m_costA r2 hdue hd q1 q3 c, q2.tr q4⟩
  · exact ⟨h1, by rw [zDc, if_neg c]; exact m_costB hdue hd q1 c, q2⟩

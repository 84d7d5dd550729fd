/-! ===== rounds and roundOf: the calls ===== -/
theorem zt7 {t : Nat} : nI t + (7 : Int32) = nI (t + 7) := by rw [show (7 : Int32) = nI 7 from by decide, nI_add]
/-- what a number of hands is -/
theorem zhn (a : Int32) : (¬ (1 : Int32) ≤ a) ∨ ((1 : Int32) ≤ a ∧ (3 : Int32) < a) ∨ ∃ n, 1 ≤ n ∧ n ≤ 3 ∧ a = nI n ∧ (1 : Int32) ≤ a ∧ ¬ (3 : Int32) < a := by
  by_cases c1 : (1 : Int32) ≤ a
  · by_cases c2 : (3 : Int32) < a
    · exact Or.inr (Or.inl ⟨c1, c2⟩)
    · have e1 : (1 : Int32).toInt = 1 := by decide
      have e3 : (3 : Int32).toInt = 3 := by decide
      have i1 := c1
      have i2 := c2
      rw [Int32.le_iff_toInt_le, e1] at i1
      rw [Int32.lt_iff_toInt_lt, e3] at i2
      obtain ⟨n, n1, n2, n3⟩ := znat (x := a) (a := 1) (b := 3) (by omega) (by omega)
      exact Or.inr (Or.inr ⟨n, n1, n2, n3, c1, c2⟩)
  · exact Or.inl c1
theorem m_wr4 {a : Int32} {h : zHp} (c : ¬ (1 : Int32) ≤ a) : s_X10_wrongRounds a h = some (-4, h) := by
  unfold s_X10_wrongRounds s_X10_wrongRounds_L34
  rw [if_neg c]
theorem m_wr6a {a : Int32} {h : zHp} (c : (1 : Int32) ≤ a) (d : (3 : Int32) < a) : s_X10_wrongRounds a h = some (-6, h) := by
  unfold s_X10_wrongRounds s_X10_wrongRounds_L28 s_X10_wrongRounds_L34
  rw [if_pos c, if_pos d]
theorem m_wr6b {a : Int32} {h : zHp} {t : Nat} (c : (1 : Int32) ≤ a) (d : ¬ (3 : Int32) < a) (e : h.1 67 0 = nI t) (ht : t ≤ 1500) (z : ¬ t + 7 ≤ 1500) : s_X10_wrongRounds a h = some (-6, h) := by
  unfold s_X10_wrongRounds s_X10_wrongRounds_L28 s_X10_wrongRounds_L34
  rw [if_pos c, if_neg d, e, zt7, if_neg (show ¬ nI (t + 7) ≤ (1500 : Int32) from nI_ge (a := 1500) (by omega) (by omega))]
theorem m_wr0 {a : Int32} {h : zHp} {t : Nat} (c : (1 : Int32) ≤ a) (d : ¬ (3 : Int32) < a) (e : h.1 67 0 = nI t) (z : t + 7 ≤ 1500) : s_X10_wrongRounds a h = some (0, h) := by
  unfold s_X10_wrongRounds s_X10_wrongRounds_L34
  rw [if_pos c, if_neg d, e, zt7, if_pos (show nI (t + 7) ≤ (1500 : Int32) from nI_le (b := 1500) z (by decide))]
theorem op_rounds (a1 : Int32) {h : zHp} (hI : zI h) : zop (s_X9_rounds a1) (s_X10_rounds a1) h := by
  have hI0 := hI
  obtain ⟨t, nc, nk, nl, nt, np, hN⟩ := hI
  obtain ⟨⟨d1, d2, d3⟩, -, -, -, ⟨-, -, -, -, -, ⟨cap, p1, p2, p3, p4⟩⟩, -⟩ := id hN
  rcases zhn a1 with c1 | ⟨c1, c2⟩ | ⟨n, n1, n3, rfl, c1, c2⟩
  · refine zop_r4 hI0 ?_ ?_
    · unfold s_X9_rounds
      rw [if_neg c1]; exact zbq _
    · unfold s_X10_rounds s_X10_rounds_L23
      rw [zbs (m_wr4 c1), if_neg (show ¬ (0 : Int32) ≤ -4 by decide)]; exact zbq _
  · refine zop_r6 hI0 ?_ ?_
    · unfold s_X9_rounds s_X9_rounds_L30
      rw [if_pos c1, if_pos c2]; exact zbq _
    · unfold s_X10_rounds s_X10_rounds_L23
      rw [zbs (m_wr6a c1 c2), if_neg (show ¬ (0 : Int32) ≤ -6 by decide)]; exact zbq _
  · by_cases ht : t + 7 ≤ 1500
    · obtain ⟨h1, q1, q2⟩ := e_plan hN ht n1 n3 p2 p3
      have hs := q2.1
      have hN1 := zIN_same hs hN
      obtain ⟨h2, r1, r2, r3⟩ := m_find (cap := cap) hN1 ht n3 p1 p2 (by rw [hs.2 30 (by decide) (by decide)]; exact p4)
      obtain ⟨e1, e2, e3, e4, e5⟩ := zmod_same hs nc nl nt t nk n
      rw [e1, e3, e4, e5] at r1
      refine zop_ok (r := nI (zLw (zPp h nc nl nt t nk) (zNp h nc nl nt t nk) (zFp h nc nl nt t nk n) (zSz h nc nl nt t nk) 0 (fun _ => cap))) (h1 := h1) (h2 := h2) ?_ ?_ (zI_same (hs.tr r2.1) hI0)
      · unfold s_X9_rounds
        rw [if_pos c1, if_neg c2, d1, zt7, if_pos (show nI (t + 7) ≤ (1500 : Int32) from nI_le (b := 1500) ht (by decide)), zbs q1]
      · unfold s_X10_rounds s_X10_rounds_L23
        rw [zbs (m_wr0 c1 c2 hN1.1.2.1 ht), if_pos (show (0 : Int32) ≤ 0 by decide), zbs r1]
    · refine zop_r6 hI0 ?_ ?_
      · unfold s_X9_rounds s_X9_rounds_L30
        rw [if_pos c1, if_neg c2, d1, zt7, if_neg (show ¬ nI (t + 7) ≤ (1500 : Int32) from nI_ge (a := 1500) (by omega) (by omega))]; exact zbq _
      · unfold s_X10_rounds s_X10_rounds_L23
        rw [zbs (m_wr6b c1 c2 (show (zr1 h 6).1 67 0 = nI t from d2) d3 ht), if_neg (show ¬ (0 : Int32) ≤ -6 by decide)]; exact zbq _
theorem m_ro {h0 h : zHp} {nc nl nt t nk n cap a : Nat} (hk : nk ≤ 20) (ha : a < nk) (A : zAs h0 nc nl nt t nk h) (h97 : ∀ p, p < zSz h0 nc nl nt t nk → h.1 97 p = nI (zgw (zPp h0 nc nl nt t nk) (zNp h0 nc nl nt t nk) (zFp h0 nc nl nt t nk n) (zSz h0 nc nl nt t nk) 0 (fun _ => cap) p)) (a3 : Int32) : ∀ m p f w, p + m = zSz h0 nc nl nt t nk → m < f → ((∀ q, q < p → zKt h0 nc nl nt t nk q ≠ a) ∧ w = 40 ∨ w = zWy h0 nc nl nt t nk n cap a ∧ ∃ q, q < p ∧ zKt h0 nc nl nt t nk q = a) → s_X10_roundOf_L63 f (nI a) a3 (nI w) (nI p) h = if nI (zWy h0 nc nl nt t nk n cap a) = (40 : Int32) then (if a3 = 0 then s_X10_roundOf_L145 (-9 : Int32) h else s_X10_roundOf_L145 (0 : Int32) h) else (if a3 = 0 then (zdiv (nI (zWy h0 nc nl nt t nk n cap a)) (8 : Int32)).bind fun v5 => s_X10_roundOf_L145 ((h.1 67 0) + v5) h else (zrem (nI (zWy h0 nc nl nt t nk n cap a)) (8 : Int32)).bind fun v4 => s_X10_roundOf_L145 v4 h)
  | 0, p, f + 1, w, hm, hf, hw => by
    have s6 := zSz_le h0 nc nl nt t nk
    obtain rfl : p = zSz h0 nc nl nt t nk := by omega
    have ew : w = zWy h0 nc nl nt t nk n cap a := by
      rcases hw with ⟨no, e⟩ | ⟨e, -⟩
      · rw [e, zWy_no ha no]
      · exact e
    rw [s_X10_roundOf_L63, A.2.1, if_pos (nI_le (Nat.le_refl _) (by omega)), ew]
  | m + 1, p, f + 1, w, hm, hf, hw => by
    have s6 := zSz_le h0 nc nl nt t nk
    have hp : p < zSz h0 nc nl nt t nk := by omega
    have kl := (zKt_is hp).1
    rw [s_X10_roundOf_L63, A.2.1, if_neg (nI_ge hp (by omega)), zbs (zriA (show p < 6 by omega) (by decide) h 93), (A.2.2.1 p hp).1]
    unfold s_X10_roundOf_L95
    by_cases e : zKt h0 nc nl nt t nk p = a
    · rw [if_pos (by rw [e]), zbs (zriA (show p < 6 by omega) (by decide) h 97), h97 p hp, nI_1]
      exact m_ro hk ha A h97 a3 m (p + 1) f _ (by omega) (by omega) (Or.inr ⟨(zWy_hit hp e).symm, p, by omega, e⟩)
    · rw [if_neg (fun z => e ((nI_eq (by omega) (by omega)).mp z)), nI_1]
      refine m_ro hk ha A h97 a3 m (p + 1) f w (by omega) (by omega) ?_
      rcases hw with ⟨no, w4⟩ | ⟨w4, q, q1, q2⟩
      · refine Or.inl ⟨fun q hq => ?_, w4⟩
        by_cases z : q = p
        · rw [z]; exact e
        · exact no q (by omega)
      · exact Or.inr ⟨w4, q, by omega, q2⟩
theorem op_roundOf (a1 a2 a3 : Int32) {h : zHp} (hI : zI h) : zop (s_X9_roundOf a1 a2 a3) (s_X10_roundOf a1 a2 a3) h := by
  have hI0 := hI
  obtain ⟨t, nc, nk, nl, nt, np, hN⟩ := hI
  obtain ⟨⟨d1, d2, d3⟩, -, ⟨⟨k1, k2, k3⟩, -⟩, -, ⟨-, -, -, -, -, ⟨cap, p1, p2, p3, p4⟩⟩, -⟩ := id hN
  rcases zix a2 (n := nk) (by omega) with ⟨hc, hc'⟩ | ⟨a, ha, rfl, i1, i2, i3⟩
  · refine zop_r1 hI0 ?_ ?_
    · unfold s_X9_roundOf
      rw [zbs (e_hX40 (by rw [k1]; exact hc)), if_pos rfl]; exact zbq _
    · unfold s_X10_roundOf
      rw [zbs (e_isKitchen0 (by rw [zm67, k2]; exact hc')), if_pos rfl]; exact zbq _
  have wa : ∀ h' : zHp, h'.1 13 10 = nI nk → s_X4_has (nI a) h' = some (1, h') := fun h' e => e_hX41 i1 (by rw [e]; exact i2)
  have va : ∀ h' : zHp, h'.1 67 8 = nI nk → s_X10_isKitchen (nI a) h' = some (1, h') := fun h' e => e_isKitchen1 i1 (by rw [e]; exact i3)
  by_cases c1 : a3 < 0
  · refine zop_r2 hI0 ?_ ?_
    · unfold s_X9_roundOf s_X9_roundOf_L26
      rw [zbs (wa h k1), if_neg z10, if_pos c1]; exact zbq _
    · unfold s_X10_roundOf
      rw [zbs (va (zr1 h 2) (by rw [zm67]; exact k2)), if_neg z10, zbs (e_in0 (Or.inl c1)), if_pos rfl]; exact zbq _
  by_cases c2 : ¬ a3 ≤ 1
  · refine zop_r2 hI0 ?_ ?_
    · unfold s_X9_roundOf s_X9_roundOf_L26
      rw [zbs (wa h k1), if_neg z10, if_neg c1, if_neg c2]; exact zbq _
    · unfold s_X10_roundOf
      rw [zbs (va (zr1 h 2) (by rw [zm67]; exact k2)), if_neg z10, zbs (e_in0 (Or.inr (znle.mp c2))), if_pos rfl]; exact zbq _
  have c2 := Decidable.not_not.mp c2
  have v3 : ∀ h' : zHp, s_X10_in a3 0 1 h' = some (1, h') := fun h' => e_in1 c1 (znlt.mpr c2)
  rcases zhn a1 with n1 | ⟨n1, n2⟩ | ⟨n, m1, m3, rfl, n1, n2⟩
  · refine zop_r4 hI0 ?_ ?_
    · unfold s_X9_roundOf
      rw [zbs (wa h k1), if_neg z10, if_neg c1, if_pos c2, if_neg n1]; exact zbq _
    · unfold s_X10_roundOf
      rw [zbs (va (zr1 h 4) (by rw [zm67]; exact k2)), if_neg z10, zbs (v3 _), if_neg z10, zbs (m_wr4 n1), if_neg (show ¬ (0 : Int32) ≤ -4 by decide)]; exact zbq _
  · refine zop_r6 hI0 ?_ ?_
    · unfold s_X9_roundOf s_X9_roundOf_L63
      rw [zbs (wa h k1), if_neg z10, if_neg c1, if_pos c2, if_pos n1, if_pos n2]; exact zbq _
    · unfold s_X10_roundOf
      rw [zbs (va (zr1 h 6) (by rw [zm67]; exact k2)), if_neg z10, zbs (v3 _), if_neg z10, zbs (m_wr6a n1 n2), if_neg (show ¬ (0 : Int32) ≤ -6 by decide)]; exact zbq _
  by_cases ht : ¬ t + 7 ≤ 1500
  · refine zop_r6 hI0 ?_ ?_
    · unfold s_X9_roundOf s_X9_roundOf_L63
      rw [zbs (wa h k1), if_neg z10, if_neg c1, if_pos c2, if_pos n1, if_neg n2, d1, zt7, if_neg (show ¬ nI (t + 7) ≤ (1500 : Int32) from nI_ge (a := 1500) (by omega) (by omega))]; exact zbq _
    · unfold s_X10_roundOf
      rw [zbs (va (zr1 h 6) (by rw [zm67]; exact k2)), if_neg z10, zbs (v3 _), if_neg z10, zbs (m_wr6b n1 n2 (show (zr1 h 6).1 67 0 = nI t from d2) d3 ht), if_neg (show ¬ (0 : Int32) ≤ -6 by decide)]; exact zbq _
  have ht := Decidable.not_not.mp ht
  have s6 := zSz_le h nc nl nt t nk
  obtain ⟨h1, q1, q2⟩ := e_plan hN ht m1 m3 p2 p3
  have hs := q2.1
  have hN1 := zIN_same hs hN
  obtain ⟨h2, r1, r2, r3⟩ := m_find (cap := cap) hN1 ht m3 p1 p2 (by rw [hs.2 30 (by decide) (by decide)]; exact p4)
  have s61 := zSz_le h1 nc nl nt t nk
  have ro := m_ro k3 ha r2 r3 a3 (zSz h1 nc nl nt t nk) 0 zFU 40 (by omega) (zFU_gt (by omega)) (Or.inl ⟨fun q hq => by omega, rfl⟩)
  rw [zWy_same hs, nI_0, show nI 40 = (40 : Int32) by decide] at ro
  have wl := zWy_le h nc nl nt t nk n cap a
  have w13 : s_X9_roundOf (nI n) (nI a) a3 h = if a3 = (1 : Int32) then ((s_X8_handsAt (nI a) h1).bind fun q12 => some (q12.1, q12.2)) else (s_X8_dayAt (nI a) h1).bind fun q10 => if (5 : Int32) ≤ q10.1 then s_X9_roundOf_L118 (-9 : Int32) q10.2 else s_X9_roundOf_L118 ((q10.2.1 0 14) + q10.1) q10.2 := by
    unfold s_X9_roundOf
    rw [zbs (wa h k1), if_neg z10, if_neg c1, if_pos c2, if_pos n1, if_neg n2, d1, zt7, if_pos (show nI (t + 7) ≤ (1500 : Int32) from nI_le (b := 1500) ht (by decide)), zbs q1]
  have m13 : s_X10_roundOf (nI n) (nI a) a3 h1 = s_X10_roundOf_L63 zFU (nI a) a3 (40 : Int32) (0 : Int32) h2 := by
    unfold s_X10_roundOf
    rw [zbs (va h1 hN1.2.2.1.1.2.1), if_neg z10, zbs (v3 _), if_neg z10, zbs (m_wr0 n1 n2 hN1.1.2.1 ht), if_pos (show (0 : Int32) ≤ 0 by decide), zbs r1]
  have hI2 : zI h2 := zI_same (hs.tr r2.1) hI0
  have t2 : h2.1 67 0 = nI t := (zIN_same r2.1 hN1).1.2.1
  by_cases c5 : a3 = 0
  · have c6 : ¬ a3 = 1 := fun z => by rw [z] at c5; exact z10 c5
    have da := e_dayAt (a := a) k3 ha q2 (zSz h nc nl nt t nk) 0 zFU (by omega) (zFU_gt (by omega)) (fun q hq => by omega)
    rw [nI_0] at da
    by_cases w4 : zWy h nc nl nt t nk n cap a = 40
    · refine zop_ok (r := -9) (h1 := h1) (h2 := h2) ?_ ?_ hI2
      · rw [w13, if_neg c6]
        unfold s_X8_dayAt
        rw [zbs da, w4, if_pos (show (5 : Int32) ≤ nI (40 / 8) by decide)]
        rfl
      · rw [m13, ro, w4, if_pos (show nI 40 = (40 : Int32) by decide), if_pos c5]
        rfl
    · refine zop_ok (r := nI (t + zWy h nc nl nt t nk n cap a / 8)) (h1 := h1) (h2 := h2) ?_ ?_ hI2
      · rw [w13, if_neg c6]
        unfold s_X8_dayAt s_X9_roundOf_L118
        rw [zbs da, if_neg (show ¬ (5 : Int32) ≤ nI (zWy h nc nl nt t nk n cap a / 8) from nI_ge (b := 5) (by omega) (by decide)), hN1.1.1, nI_add]
      · rw [m13, ro, if_neg (show ¬ nI (zWy h nc nl nt t nk n cap a) = (40 : Int32) from fun z => w4 ((nI_eq (b := 40) (by omega) (by decide)).mp z)), if_pos c5, zbs (show zdiv (nI (zWy h nc nl nt t nk n cap a)) 8 = some (nI (zWy h nc nl nt t nk n cap a / 8)) from zdivA (d := 8) (by omega) (by decide) (by decide)), t2, nI_add]
        rfl
  · have c6 : a3 = 1 := by
      have e1 : (1 : Int32).toInt = 1 := by decide
      have i1 := c1
      have i2 := c2
      rw [Int32.lt_iff_toInt_lt, Int32.toInt_zero] at i1
      rw [Int32.le_iff_toInt_le, e1] at i2
      apply Int32.toInt_inj.mp
      rw [e1]
      have : a3.toInt ≠ 0 := fun z => c5 (Int32.toInt_inj.mp (by rw [z]; rfl))
      omega
    have da := e_handsAt (a := a) k3 ha q2 (zSz h nc nl nt t nk) 0 zFU (by omega) (zFU_gt (by omega)) (fun q hq => by omega)
    rw [nI_0] at da
    refine zop_ok (r := nI (zWy h nc nl nt t nk n cap a % 8)) (h1 := h1) (h2 := h2) ?_ ?_ hI2
    · rw [w13, if_pos c6]
      unfold s_X8_handsAt
      rw [zbs da]
    · rw [m13, ro]
      by_cases w4 : zWy h nc nl nt t nk n cap a = 40
      · rw [w4, if_pos (show nI 40 = (40 : Int32) by decide), if_neg c5]
        rfl
      · rw [if_neg (show ¬ nI (zWy h nc nl nt t nk n cap a) = (40 : Int32) from fun z => w4 ((nI_eq (b := 40) (by omega) (by decide)).mp z)), if_neg c5, zbs (show zrem (nI (zWy h nc nl nt t nk n cap a)) 8 = some (nI (zWy h nc nl nt t nk n cap a % 8)) from zremA (d := 8) (by omega) (by decide) (by decide))]
        rfl

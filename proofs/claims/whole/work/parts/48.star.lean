theorem m_score0 {h : zHp} (a1 a2 : Int32) : ∀ m g f (F : Nat → Int32), g + m = 5 → m < f → (∀ j, j < g → F j = 0) → ∃ F' : Nat → Int32, (∀ j, j < 5 → F' j = 0) ∧ s_X10_scoreOf_L2 f a1 a2 (nI g) (zgk h 89 F) = s_X10_scoreOf_L22 zFU a1 a2 0 (zgk h 89 F')
  | 0, g, f + 1, F, hm, hf, hF => by
    obtain rfl : g = 5 := by omega
    exact ⟨F, hF, by simp only [s_X10_scoreOf_L2, show (5 : Int32) ≤ nI 5 from by decide, reduceIte]⟩
  | m + 1, g, f + 1, F, hm, hf, hF => by
    have hg : g < 5 := by omega
    obtain ⟨F', q1, q2⟩ := m_score0 (h := h) a1 a2 m (g + 1) f (upd F g 0) (by omega) (by omega) (fun j hj => by
      by_cases e : j = g
      · rw [e, pk_us]
      · rw [pk_un e]; exact hF j (by omega))
    refine ⟨F', q1, ?_⟩
    simp only [s_X10_scoreOf_L2, show ¬ (5 : Int32) ≤ nI g from nI_ge (b := 5) hg (by decide), reduceIte, zuiA hg (by decide : 5 < 2 ^ 31), Option.bind_some, zgk_wi, nI_1]
    exact q2
theorem m_score1 {h : zHp} {n l : Nat} {d : Int32} (hc : zIc h n) (h87 : h.1 30 = h.1 87) (hf : ∀ r, r < 3200 → ∃ f, f ≤ 99 ∧ h.1 30 r = nI f) (hl : l < 80) : ∀ m c f (F : Nat → Int32), c + m = n → m < f → (∀ g, g < 5 → F g = nI (zG (h.1 7) (h.1 8) (h.1 10) (h.1 11) (h.1 30) l d c g)) → ∃ F' : Nat → Int32, (∀ g, g < 5 → F' g = nI (zG (h.1 7) (h.1 8) (h.1 10) (h.1 11) (h.1 30) l d n g)) ∧ s_X10_scoreOf_L22 f (nI l) d (nI c) (zgk h 89 F) = s_X10_scoreOf_L83 zFU 0 0 (zgk h 89 F')
  | 0, c, f + 1, F, hm, hf1, hF => by
    obtain rfl : c = n := by omega
    refine ⟨F, hF, ?_⟩
    have e6 : (zgk h 89 F).1 67 1 = nI c := hc.1.2.1
    have hc40 := hc.1.2.2
    simp only [s_X10_scoreOf_L22, e6, nI_le (Nat.le_refl c) (show c < 2 ^ 31 by omega), reduceIte]
  | m + 1, c, f + 1, F, hm, hf1, hF => by
    have hcn : c < n := by omega
    have hn40 := hc.1.2.2
    have e6 : (zgk h 89 F).1 67 1 = nI n := hc.1.2.1
    have hr : 40 * l + c < 3200 := by omega
    obtain ⟨x, x1, x2⟩ := hf (40 * l + c) hr
    have e87 : (zgk h 89 F).1 87 (40 * l + c) = nI x := (congrFun h87.symm _).trans x2
    have hs := zsf_lt (ft := h.1 11) (d := d) hn40 (fun i hi => (hc.2.2.2.2.1 i hi).2) 40 c hcn
    obtain ⟨g, g1, g2⟩ := hc.2.2.1 _ hs
    obtain ⟨p, p1, p2⟩ := hc.2.2.2.1 _ hs
    have hz : ∀ k, zG (h.1 7) (h.1 8) (h.1 10) (h.1 11) (h.1 30) l d (c + 1) k = zG (h.1 7) (h.1 8) (h.1 10) (h.1 11) (h.1 30) l d c k + if g = k then p * x else 0 := fun k => by
      rw [zG, g2, p2, x2, nI_clamp (by omega), nI_clamp (by omega), nI_clamp (by omega)]
    obtain ⟨F', q1, q2⟩ := m_score1 hc h87 hf hl m (c + 1) f (upd F g (F g + nI x * nI p)) (by omega) (by omega) (fun k hk => by
        rw [hz k]
        by_cases e : k = g
        · subst e
          rw [pk_us, hF k hk, if_pos rfl, pk_mul, nI_add, Nat.mul_comm x p]
        · rw [pk_un e, hF k hk, if_neg (fun z => e z.symm), Nat.add_zero])
    refine ⟨F', q1, ?_⟩
    have hs40 : zsf (h.1 10) (h.1 11) d 40 c < 40 := by omega
    have e68 : (zgk h 89 F).1 68 (zsf (h.1 10) (h.1 11) d 40 c) = nI g := (congrFun hc.2.1.1.symm _).trans g2
    have e69 : (zgk h 89 F).1 69 (zsf (h.1 10) (h.1 11) d 40 c) = nI p := (congrFun hc.2.1.2.1.symm _).trans p2
    have ws : s_X10_standsFor (nI c) d (zgk h 89 F) = some (nI (zsf (h.1 10) (h.1 11) d 40 c), zgk h 89 F) := m_stand (h := zgk h 89 F) hc d hcn
    simp only [s_X10_scoreOf_L22, Option.bind_some, e6, nI_ge hcn (show n < 2 ^ 31 by omega), reduceIte, nI_1, ws, zriA hs40 (by decide : 40 < 2 ^ 31), e68, e69, zriA g1 (by decide : 5 < 2 ^ 31), zuiA g1 (by decide : 5 < 2 ^ 31), (zix40 (a := l) (b := c)).2, zriA hr (by decide : 3200 < 2 ^ 31), e87, zgk_at, zgk_wi]
    exact q2
theorem m_score2 {h : zHp} {F : Nat → Int32} {G : Nat → Nat} (h73 : h.1 12 = h.1 73) (hF : ∀ g, g < 5 → F g = nI (G g)) (hG : ∀ g, g < 5 → G g < 2 ^ 31) (h12 : ∀ g, g < 5 → ∃ m, m ≤ 200 ∧ h.1 12 g = nI m) : ∀ m g f, g + m = 5 → m < f → s_X10_scoreOf_L83 f (nI (zSum G (h.1 12) g)) (nI g) (zgk h 89 F) = some (nI (zSum G (h.1 12) 5), zgk h 89 F)
  | 0, g, f + 1, hm, hf => by
    obtain rfl : g = 5 := by omega
    simp only [s_X10_scoreOf_L83, show (5 : Int32) ≤ nI 5 from by decide, reduceIte]
  | m + 1, g, f + 1, hm, hf => by
    have hg : g < 5 := by omega
    obtain ⟨w, w1, w2⟩ := h12 g hg
    have hG' := hG g hg
    have ih := m_score2 h73 hF hG h12 m (g + 1) f (by omega) (by omega)
    rw [zSum, w2, nI_clamp (by omega)] at ih
    have e73 : (zgk h 89 F).1 73 g = nI w := (congrFun h73.symm g).trans w2
    simp only [s_X10_scoreOf_L83, s_X10_scoreOf_L124, show ¬ (5 : Int32) ≤ nI g from nI_ge (b := 5) hg (by decide), reduceIte, zriA hg (by decide : 5 < 2 ^ 31), zgk_at, Option.bind_some, hF g hg, e73]
    by_cases c : w < G g
    · rw [if_pos c] at ih
      simp only [nI_le (show w ≤ G g by omega) hG', reduceIte, nI_add, nI_1]
      exact ih
    · rw [if_neg c] at ih
      by_cases c2 : w = G g
      · subst c2
        simp only [nI_le (Nat.le_refl (G g)) hG', reduceIte, nI_add, nI_1]
        exact ih
      · simp only [nI_ge (show G g < w by omega) (show w < 2 ^ 31 by omega), reduceIte, nI_add, nI_1]
        exact ih
theorem m_score {h : zHp} {n l : Nat} {d : Int32} (hc : zIc h n) (h87 : h.1 30 = h.1 87) (hf : ∀ r, r < 3200 → ∃ f, f ≤ 99 ∧ h.1 30 r = nI f) (hl : l < 80) : ∃ F, s_X10_scoreOf (nI l) d h = some (nI (zScore h n l d), zgk h 89 F) := by
  obtain ⟨F0, e1, e2⟩ := m_score0 (h := h) (nI l) d 5 0 zFU (h.1 89) rfl (by decide) (fun j hj => absurd hj (Nat.not_lt_zero j))
  rw [zgk_id] at e2
  have hn := hc.1.2.2
  obtain ⟨F', q1, q2⟩ := m_score1 (d := d) hc h87 hf hl n 0 zFU F0 (by omega) (by have : zFU = 4611686018427387904 := rfl; omega) (fun g hg => by rw [e1 g hg]; rfl)
  refine ⟨F', ?_⟩
  have q3 := m_score2 (h := h) hc.2.1.2.2.2.2 q1 (fun g _ => by have := zG_le (d := d) hc hf hl n g (Nat.le_refl n); omega) hc.2.2.2.2.2.2 5 0 zFU rfl (by decide)
  exact e2.trans (q2.trans q3)
theorem zScore_same {h h' : zHp} (hs : zSame h h') (n l : Nat) (d : Int32) : zScore h' n l d = zScore h n l d := by
  unfold zScore
  rw [hs.1 7 (by decide), hs.1 8 (by decide), hs.1 10 (by decide), hs.1 11 (by decide), hs.1 12 (by decide), hs.1 30 (by decide)]
theorem op_score (a1 a2 : Int32) {h : zHp} (hI : zI h) : zop (s_X9_score a1 a2) (s_X10_score a1 a2) h := by
  have hI0 := hI
  obtain ⟨t, nc, nk, nl, nt, np, hN⟩ := hI
  have hN0 := hN
  obtain ⟨h1, hc, h3, h4, h5, ⟨⟨l1, l2, l3⟩, ⟨u1, u2, u3, u4, u5⟩, v1, v2, v3, v4⟩, h7⟩ := hN
  rcases zix a1 (n := nl) (by omega) with ⟨hc1, hc'⟩ | ⟨i, hi, rfl, i1, i2, i3⟩
  · refine zop_r1 hI0 ?_ ?_
    · simp only [s_X9_score, e_hX50 (by rw [l1]; exact hc1), Option.bind_some, reduceIte, zbq]
    · simp only [s_X10_score, e_isLook0 (h := zr1 h 1) (by rw [zm67, l2]; exact hc'), Option.bind_some, reduceIte, zbq]
  have w1 : s_X5_has (nI i) h = some (1, h) := e_hX51 i1 (by rw [l1]; exact i2)
  have r1 : ∀ h' : zHp, h'.1 67 17 = nI nl → s_X10_isLook (nI i) h' = some (1, h') := fun h' e => e_isLook1 i1 (by rw [e]; exact i3)
  have hi80 : i < 80 := by omega
  by_cases c1 : 0 ≤ a2
  · by_cases c2 : a2 ≤ 1500
    · obtain ⟨F, q1⟩ := e_score (d := a2) hc v3 hi80
      have hs := zgk_same h F (k := 31) (by decide) (by decide)
      have hN1 := zIN_same hs hN0
      obtain ⟨F2, q2⟩ := m_score (h := zgk h 31 F) (d := a2) hN1.2.1 u5 v3 hi80
      rw [zScore_same hs] at q2
      refine zop_ok (r := nI (zScore h nc i a2)) (h1 := zgk h 31 F) (h2 := zgk (zgk h 31 F) 89 F2) ?_ ?_ ?_
      · simp only [s_X9_score, w1, Option.bind_some, reduceIte, z10, c1, c2, q1]
      · simp only [s_X10_score, s_X10_score_L38, s_X10_wrongDay, s_X10_wrongDay_L22, r1 (zgk h 31 F) l2, Option.bind_some, reduceIte, z10, c1, c2, q2, show (0 : Int32) ≤ 0 from by decide]
      · exact zI_same (zgk_same _ F2 (k := 89) (by decide) (by decide)) (zI_same hs hI0)
    · refine zop_r6 hI0 ?_ ?_
      · simp only [s_X9_score, w1, Option.bind_some, reduceIte, z10, c1, c2, zbq]
      · simp only [s_X10_score, s_X10_score_L38, s_X10_wrongDay, s_X10_wrongDay_L22, r1 (zr1 h 6) l2, Option.bind_some, reduceIte, z10, c1, c2, show ¬ (0 : Int32) ≤ -6 from by decide, zbq]
  · refine zop_r4 hI0 ?_ ?_
    · simp only [s_X9_score, w1, Option.bind_some, reduceIte, z10, c1, zbq]
    · simp only [s_X10_score, s_X10_score_L38, s_X10_wrongDay, s_X10_wrongDay_L22, r1 (zr1 h 4) l2, Option.bind_some, reduceIte, z10, c1, show ¬ (0 : Int32) ≤ -4 from by decide, zbq]
/-! ===== the latest look, the table in force, stars ===== -/
def zlt (f25 f27 f28 f29 : Nat → Int32) (a1 a2 a3 : Int32) : Nat → Option Nat
  | 0 => none
  | i + 1 => if f25 i = a1 ∧ f27 i ≤ a2 ∧ f28 i ≤ a3 ∧ a3 < f29 i ∧ (∀ b, zlt f25 f27 f28 f29 a1 a2 a3 i = some b → f27 b ≤ f27 i) then some i else zlt f25 f27 f28 f29 a1 a2 a3 i
def zoi (o : Option Nat) : Int32 := match o with
  | none => -1
  | some b => nI b

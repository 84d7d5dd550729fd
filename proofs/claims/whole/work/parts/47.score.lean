/-! ===== what a code stands for, scores ===== -/
def zgk (h : zHp) (k : Nat) (F : Nat → Int32) : zHp := (va_up h.1 k F, h.2)
theorem zgk_wi (h : zHp) (k : Nat) (F : Nat → Int32) (g : Nat) (x : Int32) : zwi (zgk h k F) k g x = zgk h k (upd F g x) := by
  unfold zwi zgk
  congr 1
  funext j
  by_cases e : j = k <;> simp [va_up, e]
theorem zgk_at (h : zHp) (k : Nat) (F : Nat → Int32) : (zgk h k F).1 k = F := by simp [zgk, va_up]
theorem zgk_ne (h : zHp) {k a : Nat} (F : Nat → Int32) (ha : a ≠ k) : (zgk h k F).1 a = h.1 a := by simp [zgk, va_up, ha]
theorem zgk_id (h : zHp) (k : Nat) : zgk h k (h.1 k) = h := by
  obtain ⟨f, g⟩ := h
  unfold zgk
  congr 1
  funext j
  by_cases e : j = k <;> simp [va_up, e]
theorem zgk_same (h : zHp) {k : Nat} (F : Nat → Int32) (hk : zscr k = true) (h67 : k ≠ 67) : zSame h (zgk h k F) := by
  refine ⟨fun j hj => ?_, fun j _ _ => ?_⟩
  · exact zgk_ne h F (fun e => by rw [e, hk] at hj; cases hj)
  · rw [zgk_ne h F (fun e => h67 e.symm)]
theorem zfl_gk (h : zHp) (k n : Nat) (v : Int32) : ∃ F, zfl h k 0 n v = zgk h k F ∧ ∀ j, j < n → F j = v := ⟨_, rfl, fun j hj => if_pos ⟨Nat.zero_le j, hj⟩⟩
def zsf (fi ft : Nat → Int32) (d : Int32) : Nat → Nat → Nat
  | 0, c => c
  | m + 1, c => if fi c = -1 then c else if ft c ≤ d then zsf fi ft d m (fi c).toNatClampNeg else c
theorem zsf_lt {fi ft : Nat → Int32} {d : Int32} {n : Nat} (hn : n ≤ 40) (hf : ∀ i, i < n → fi i = -1 ∨ ∃ j, i < j ∧ j < n ∧ fi i = nI j) : ∀ m c, c < n → zsf fi ft d m c < n
  | 0, c, hc => hc
  | m + 1, c, hc => by
    unfold zsf
    rcases hf c hc with e | ⟨j, j1, j2, e⟩
    · rw [if_pos e]; exact hc
    · rw [if_neg (by rw [e]; exact nIm1 (by omega))]
      split
      · rw [e, nI_clamp (by omega)]; exact zsf_lt hn hf m j j2
      · exact hc
theorem e_stand1 {h : zHp} {n : Nat} (hn : n ≤ 40) (hf : ∀ i, i < n → h.1 10 i = -1 ∨ ∃ j, i < j ∧ j < n ∧ h.1 10 i = nI j) (d : Int32) : ∀ m k c f, k + m = 40 → m < f → c < n → s_X0_standingFor_L5 f d (nI c) (nI k) h = some (nI (zsf (h.1 10) (h.1 11) d m c), h)
  | 0, k, c, f + 1, hk, hf1, hc => by
    obtain rfl : k = 40 := by omega
    simp only [s_X0_standingFor_L5, s_X0_standingFor_L48, show (40 : Int32) ≤ nI 40 from by decide, reduceIte, zsf]
  | m + 1, k, c, f + 1, hk, hf1, hc => by
    have hc40 : c < 40 := by omega
    have z40 : ∀ (a : Nat), zri h a 40 (nI c) = some (h.1 a c) := fun a => zri_ok hc40 (by decide)
    simp only [s_X0_standingFor_L5, s_X0_standingFor_L48, show ¬ (40 : Int32) ≤ nI k from nI_ge (b := 40) (by omega) (by decide), reduceIte, zsf, z40, Option.bind_some]
    rcases hf c hc with e | ⟨j, j1, j2, e⟩
    · simp only [e, reduceIte]
    · simp only [e, nIm1 (show j < 2 ^ 31 by omega), reduceIte]
      by_cases c1 : h.1 11 c ≤ d
      · simp only [c1, reduceIte, nI_1, nI_clamp (show j < 2 ^ 31 by omega)]
        exact e_stand1 hn hf d m (k + 1) j f (by omega) (by omega) j2
      · simp only [c1, reduceIte]
theorem e_stand {h : zHp} {n : Nat} (hc : zIc h n) (d : Int32) {c : Nat} (hcn : c < n) : s_X0_standingFor (nI c) d h = some (nI (zsf (h.1 10) (h.1 11) d 40 c), h) := by
  obtain ⟨⟨k1, k2, k3⟩, -, -, -, y3, -⟩ := hc
  exact e_stand1 k3 (fun i hi => (y3 i hi).2) d 40 0 c zFU rfl (by decide) hcn
theorem m_stand1 {h : zHp} {n : Nat} (hn : n ≤ 40) (hf : ∀ i, i < n → h.1 71 i = h.1 10 i ∧ (h.1 10 i = -1 ∨ ∃ j, i < j ∧ j < n ∧ h.1 10 i = nI j)) (h72 : h.1 11 = h.1 72) (d : Int32) : ∀ m c f, n - c ≤ m → m < f → c < n → s_X10_standsFor_L2 f d (nI c) h = some (nI (zsf (h.1 10) (h.1 11) d m c), h)
  | 0, c, f + 1, hk, hf1, hc => by omega
  | m + 1, c, f + 1, hk, hf1, hc => by
    have hc40 : c < 40 := by omega
    have z40 : ∀ (a : Nat), zri h a 40 (nI c) = some (h.1 a c) := fun a => zri_ok hc40 (by decide)
    obtain ⟨e71, e10⟩ := hf c hc
    have e72 : h.1 72 c = h.1 11 c := (congrFun h72 c).symm
    simp only [s_X10_standsFor_L2, s_X10_standsFor_L31, zsf, z40, Option.bind_some, e71, e72]
    rcases e10 with e | ⟨j, j1, j2, e⟩
    · simp only [e, reduceIte, zm1lt]
    · simp only [e, nIm1 (show j < 2 ^ 31 by omega), nI_pos (show j < 2 ^ 31 by omega), reduceIte]
      by_cases c1 : h.1 11 c ≤ d
      · have c1' : ¬ d < h.1 11 c := by rw [Int32.le_iff_toInt_le] at c1; rw [Int32.lt_iff_toInt_lt]; omega
        simp only [c1, c1', reduceIte, nI_clamp (show j < 2 ^ 31 by omega)]
        exact m_stand1 hn hf h72 d m j f (by omega) (by omega) j2
      · have c1' : d < h.1 11 c := by rw [Int32.le_iff_toInt_le] at c1; rw [Int32.lt_iff_toInt_lt]; omega
        simp only [c1, c1', reduceIte]
theorem m_stand {h : zHp} {n : Nat} (hc : zIc h n) (d : Int32) {c : Nat} (hcn : c < n) : s_X10_standsFor (nI c) d h = some (nI (zsf (h.1 10) (h.1 11) d 40 c), h) := by
  obtain ⟨⟨k1, k2, k3⟩, ⟨x1, x2, x3, x4, x5⟩, -, -, y3, -⟩ := hc
  exact m_stand1 k3 y3 x4 d 40 c zFU (by omega) (by decide) hcn
theorem op_stands (a1 a2 : Int32) {h : zHp} (hI : zI h) : zop (s_X9_stands a1 a2) (s_X10_stands a1 a2) h := by
  have hI0 := hI
  obtain ⟨t, nc, nk, nl, nt, np, h1, h2, h3⟩ := hI
  have hc := h2
  obtain ⟨⟨k1, k2, k3⟩, -⟩ := h2
  rcases zix a1 (n := nc) (by omega) with ⟨hc1, hc'⟩ | ⟨i, hi, rfl, i1, i2, i3⟩
  · refine zop_r1 hI0 ?_ ?_
    · simp only [s_X9_stands, e_hX00 (by rw [k1]; exact hc1), Option.bind_some, reduceIte, zbq]
    · simp only [s_X10_stands, e_isCode0 (h := zr1 h 1) (by rw [zm67, k2]; exact hc'), Option.bind_some, reduceIte, zbq]
  have w1 : s_X0_has (nI i) h = some (1, h) := e_hX01 i1 (by rw [k1]; exact i2)
  have r1 : ∀ h' : zHp, h'.1 67 1 = nI nc → s_X10_isCode (nI i) h' = some (1, h') := fun h' e => e_isCode1 i1 (by rw [e]; exact i3)
  by_cases c1 : 0 ≤ a2
  · by_cases c2 : a2 ≤ 1500
    · refine zop_ok (r := nI (zsf (h.1 10) (h.1 11) a2 40 i)) (h1 := h) (h2 := h) ?_ ?_ hI0
      · simp only [s_X9_stands, w1, Option.bind_some, reduceIte, z10, c1, c2, e_stand hc a2 hi]
      · simp only [s_X10_stands, s_X10_stands_L38, s_X10_wrongDay, s_X10_wrongDay_L22, r1 h k2, Option.bind_some, reduceIte, z10, c1, c2, m_stand hc a2 hi, show (0 : Int32) ≤ 0 from by decide]
    · refine zop_r6 hI0 ?_ ?_
      · simp only [s_X9_stands, w1, Option.bind_some, reduceIte, z10, c1, c2, zbq]
      · simp only [s_X10_stands, s_X10_stands_L38, s_X10_wrongDay, s_X10_wrongDay_L22, r1 (zr1 h 6) k2, Option.bind_some, reduceIte, z10, c1, c2, show ¬ (0 : Int32) ≤ -6 from by decide, zbq]
  · refine zop_r4 hI0 ?_ ?_
    · simp only [s_X9_stands, w1, Option.bind_some, reduceIte, z10, c1, zbq]
    · simp only [s_X10_stands, s_X10_stands_L38, s_X10_wrongDay, s_X10_wrongDay_L22, r1 (zr1 h 4) k2, Option.bind_some, reduceIte, z10, c1, show ¬ (0 : Int32) ≤ -4 from by decide, zbq]
/-- the points found of a group, codes 0 .. c-1 -/
def zG (f7 f8 f10 f11 f30 : Nat → Int32) (l : Nat) (d : Int32) : Nat → Nat → Nat
  | 0, _ => 0
  | c + 1, g => zG f7 f8 f10 f11 f30 l d c g + if (f7 (zsf f10 f11 d 40 c)).toNatClampNeg = g then (f8 (zsf f10 f11 d 40 c)).toNatClampNeg * (f30 (40 * l + c)).toNatClampNeg else 0
def zSum (G : Nat → Nat) (f12 : Nat → Int32) : Nat → Nat
  | 0 => 0
  | g + 1 => zSum G f12 g + if (f12 g).toNatClampNeg < G g then (f12 g).toNatClampNeg else G g
def zScore (h : zHp) (n l : Nat) (d : Int32) : Nat := zSum (zG (h.1 7) (h.1 8) (h.1 10) (h.1 11) (h.1 30) l d n) (h.1 12) 5
theorem zSum_le {G : Nat → Nat} {f12 : Nat → Int32} (hf : ∀ g, g < 5 → ∃ m, m ≤ 200 ∧ f12 g = nI m) : ∀ k, k ≤ 5 → zSum G f12 k ≤ 200 * k
  | 0, _ => Nat.zero_le _
  | k + 1, hk => by
    have ih := zSum_le (G := G) hf k (by omega)
    obtain ⟨m, m1, m2⟩ := hf k (by omega)
    unfold zSum
    rw [m2, nI_clamp (by omega)]
    split <;> omega
theorem zScore_le {h : zHp} {n l : Nat} {d : Int32} (hc : zIc h n) : zScore h n l d ≤ 1000 := zSum_le hc.2.2.2.2.2.2 5 (Nat.le_refl 5)
theorem zG_le {h : zHp} {n l : Nat} {d : Int32} (hc : zIc h n) (hf : ∀ r, r < 3200 → ∃ f, f ≤ 99 ∧ h.1 30 r = nI f) (hl : l < 80) : ∀ c g, c ≤ n → zG (h.1 7) (h.1 8) (h.1 10) (h.1 11) (h.1 30) l d c g ≤ 4950 * c
  | 0, _, _ => Nat.zero_le _
  | c + 1, g, hcn => by
    have ih := zG_le (d := d) hc hf hl c g (by omega)
    obtain ⟨⟨k1, k2, k3⟩, -, -, y2, y3, -⟩ := hc
    have hs := zsf_lt (ft := h.1 11) (d := d) k3 (fun i hi => (y3 i hi).2) 40 c (by omega)
    obtain ⟨p, p1, p2⟩ := y2 _ hs
    obtain ⟨f, f1, f2⟩ := hf (40 * l + c) (by omega)
    unfold zG
    rw [p2, f2, nI_clamp (by omega), nI_clamp (by omega)]
    have : p * f ≤ 50 * 99 := Nat.mul_le_mul p1 f1
    split <;> omega
theorem e_score1 {h : zHp} {n l : Nat} {d : Int32} (hc : zIc h n) (hf : ∀ r, r < 3200 → ∃ f, f ≤ 99 ∧ h.1 30 r = nI f) (hl : l < 80) : ∀ m c f (F : Nat → Int32), c + m = n → m < f → (∀ g, g < 5 → F g = nI (zG (h.1 7) (h.1 8) (h.1 10) (h.1 11) (h.1 30) l d c g)) → ∃ F' : Nat → Int32, (∀ g, g < 5 → F' g = nI (zG (h.1 7) (h.1 8) (h.1 10) (h.1 11) (h.1 30) l d n g)) ∧ s_X5_scoreOn_L10 f (nI l) d (nI c) (zgk h 31 F) = s_X5_scoreOn_L85 zFU 0 0 (zgk h 31 F')
  | 0, c, f + 1, F, hm, hf1, hF => by
    obtain rfl : c = n := by omega
    refine ⟨F, hF, ?_⟩
    have e6 : (zgk h 31 F).1 6 6 = nI c := hc.1.1
    have hc40 := hc.1.2.2
    simp only [s_X5_scoreOn_L10, s_X0_size, Option.bind_some, e6, nI_le (Nat.le_refl c) (show c < 2 ^ 31 by omega), reduceIte]
  | m + 1, c, f + 1, F, hm, hf1, hF => by
    have hcn : c < n := by omega
    have hn40 := hc.1.2.2
    have e6 : (zgk h 31 F).1 6 6 = nI n := hc.1.1
    have hr : 40 * l + c < 3200 := by omega
    obtain ⟨x, x1, x2⟩ := hf (40 * l + c) hr
    have e30 : (zgk h 31 F).1 30 (40 * l + c) = nI x := x2
    have hs := zsf_lt (ft := h.1 11) (d := d) hn40 (fun i hi => (hc.2.2.2.2.1 i hi).2) 40 c hcn
    obtain ⟨g, g1, g2⟩ := hc.2.2.1 _ hs
    obtain ⟨p, p1, p2⟩ := hc.2.2.2.1 _ hs
    have hz : ∀ k, zG (h.1 7) (h.1 8) (h.1 10) (h.1 11) (h.1 30) l d (c + 1) k = zG (h.1 7) (h.1 8) (h.1 10) (h.1 11) (h.1 30) l d c k + if g = k then p * x else 0 := fun k => by
      rw [zG, g2, p2, x2, nI_clamp (by omega), nI_clamp (by omega), nI_clamp (by omega)]
    have wt : s_X5_timesFound (nI l) (nI c) (zgk h 31 F) = some (nI x, zgk h 31 F) := by
      simp only [s_X5_timesFound, (zix40 (a := l) (b := c)).1, zriA hr (by decide : 3200 < 2 ^ 31), Option.bind_some, e30]
    by_cases hx : x = 0
    · subst hx
      obtain ⟨F', q1, q2⟩ := e_score1 hc hf hl m (c + 1) f F (by omega) (by omega) (fun k hk => by rw [hF k hk, hz k, Nat.mul_zero]; congr 1; split <;> rfl)
      refine ⟨F', q1, ?_⟩
      simp only [s_X5_scoreOn_L10, s_X5_scoreOn_L74, s_X0_size, Option.bind_some, e6, nI_ge hcn (show n < 2 ^ 31 by omega), reduceIte, wt, show nI 0 ≤ 0 from by decide, nI_1]
      exact q2
    · obtain ⟨F', q1, q2⟩ := e_score1 hc hf hl m (c + 1) f (upd F g (F g + nI p * nI x)) (by omega) (by omega) (fun k hk => by
        rw [hz k]
        by_cases e : k = g
        · subst e
          rw [pk_us, hF k hk, if_pos rfl, pk_mul, nI_add]
        · rw [pk_un e, hF k hk, if_neg (fun z => e z.symm), Nat.add_zero])
      refine ⟨F', q1, ?_⟩
      have hs40 : zsf (h.1 10) (h.1 11) d 40 c < 40 := by omega
      have w7 : s_X0_groupOf (nI (zsf (h.1 10) (h.1 11) d 40 c)) (zgk h 31 F) = some (nI g, zgk h 31 F) := by
        simp only [s_X0_groupOf, zriA hs40 (by decide : 40 < 2 ^ 31), Option.bind_some, show (zgk h 31 F).1 7 (zsf (h.1 10) (h.1 11) d 40 c) = nI g from g2]
      have w8 : s_X0_pointsOf (nI (zsf (h.1 10) (h.1 11) d 40 c)) (zgk h 31 F) = some (nI p, zgk h 31 F) := by
        simp only [s_X0_pointsOf, zriA hs40 (by decide : 40 < 2 ^ 31), Option.bind_some, show (zgk h 31 F).1 8 (zsf (h.1 10) (h.1 11) d 40 c) = nI p from p2]
      have ws : s_X0_standingFor (nI c) d (zgk h 31 F) = some (nI (zsf (h.1 10) (h.1 11) d 40 c), zgk h 31 F) := e_stand (h := zgk h 31 F) hc d hcn
      simp only [s_X5_scoreOn_L10, s_X5_scoreOn_L74, s_X0_size, Option.bind_some, e6, nI_ge hcn (show n < 2 ^ 31 by omega), reduceIte, wt, nI_nle (show 0 < x by omega) (show x < 2 ^ 31 by omega), nI_1, ws, w7, w8, zriA g1 (by decide : 5 < 2 ^ 31), zuiA g1 (by decide : 5 < 2 ^ 31), zgk_at, zgk_wi]
      exact q2
theorem e_score2 {h : zHp} {F : Nat → Int32} {G : Nat → Nat} (hF : ∀ g, g < 5 → F g = nI (G g)) (hG : ∀ g, g < 5 → G g < 2 ^ 31) (h12 : ∀ g, g < 5 → ∃ m, m ≤ 200 ∧ h.1 12 g = nI m) : ∀ m g f, g + m = 5 → m < f → s_X5_scoreOn_L85 f (nI (zSum G (h.1 12) g)) (nI g) (zgk h 31 F) = some (nI (zSum G (h.1 12) 5), zgk h 31 F)
  | 0, g, f + 1, hm, hf => by
    obtain rfl : g = 5 := by omega
    simp only [s_X5_scoreOn_L85, show (5 : Int32) ≤ nI 5 from by decide, reduceIte]
  | m + 1, g, f + 1, hm, hf => by
    have hg : g < 5 := by omega
    obtain ⟨w, w1, w2⟩ := h12 g hg
    have hG' := hG g hg
    have ih := e_score2 hF hG h12 m (g + 1) f (by omega) (by omega)
    rw [zSum, w2, nI_clamp (by omega)] at ih
    simp only [s_X5_scoreOn_L85, s_X0_mostOf, s_J9_min_7cf53, s_J9_min_7cf53_L10, show ¬ (5 : Int32) ≤ nI g from nI_ge (b := 5) hg (by decide), reduceIte, zriA hg (by decide : 5 < 2 ^ 31), zgk_at, Option.bind_some, hF g hg, show (zgk h 31 F).1 12 g = nI w from w2]
    by_cases c : w < G g
    · rw [if_pos c] at ih
      simp only [nI_lt c hG', reduceIte, Option.bind_some, nI_add, nI_1]
      exact ih
    · rw [if_neg c] at ih
      simp only [nI_nlt (show G g ≤ w by omega) (show w < 2 ^ 31 by omega), reduceIte, Option.bind_some, nI_add, nI_1]
      exact ih
theorem e_score {h : zHp} {n l : Nat} {d : Int32} (hc : zIc h n) (hf : ∀ r, r < 3200 → ∃ f, f ≤ 99 ∧ h.1 30 r = nI f) (hl : l < 80) : ∃ F, s_X5_scoreOn (nI l) d h = some (nI (zScore h n l d), zgk h 31 F) := by
  obtain ⟨F0, e0, e1⟩ := zfl_gk h 31 5 0
  obtain ⟨F', q1, q2⟩ := e_score1 (d := d) hc hf hl n 0 zFU F0 (by omega) (by have := hc.1.2.2; have : zFU = 4611686018427387904 := rfl; omega) (fun g hg => by rw [e1 g hg]; rfl)
  refine ⟨F', ?_⟩
  have hn := hc.1.2.2
  have q3 := e_score2 (h := h) q1 (fun g _ => by have := zG_le (d := d) hc hf hl n g (Nat.le_refl n); omega) hc.2.2.2.2.2.2 5 0 zFU rfl (by decide)
  unfold s_X5_scoreOn
  rw [zbs (f_J7_fill_53178_31 0 h), e0]
  exact q2.trans q3

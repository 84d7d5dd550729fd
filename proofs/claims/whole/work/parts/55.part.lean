/-! ===== weights, part, joined, count ===== -/
def zShut (h : zHp) (i x : Nat) : Bool := zshu (fun r => (h.1 22 (8 * i + r)).toNatClampNeg) (fun r => (h.1 23 (8 * i + r)).toNatClampNeg) x (h.1 21 i).toNatClampNeg
def zOpen (h : zHp) (c i : Nat) : Nat := zoc (zShut h i) (h.1 54 c).toNatClampNeg ((h.1 55 c).toNatClampNeg + 1 - (h.1 54 c).toNatClampNeg)
def zWt (h : zHp) (c i : Nat) : Nat := if h.1 15 i = h.1 53 c ∧ ¬ ((h.1 18 i >>> (h.1 56 c &&& 31)) &&& (1 : Int32)) = 0 then (h.1 16 i).toNatClampNeg * zOpen h c i else 0
theorem zWt_same {h h' : zHp} (hs : zSame h h') (c i : Nat) : zWt h' c i = zWt h c i := by
  unfold zWt zOpen zShut
  rw [hs.1 15 (by decide), hs.1 16 (by decide), hs.1 18 (by decide), hs.1 21 (by decide), hs.1 22 (by decide), hs.1 23 (by decide), hs.1 53 (by decide), hs.1 54 (by decide), hs.1 55 (by decide), hs.1 56 (by decide)]
theorem zSH_of {h : zHp} {i : Nat} (hs : zIs h) (hi : i < 20) : zSH h i (h.1 21 i).toNatClampNeg (fun r => (h.1 22 (8 * i + r)).toNatClampNeg) (fun r => (h.1 23 (8 * i + r)).toNatClampNeg) := by
  obtain ⟨s, s1, s2, s3⟩ := hs.2 i hi
  refine ⟨hi, ?_, ?_, fun r hr => ?_⟩
  · rw [s2, nI_clamp (by omega)]; exact s1
  · rw [s2, nI_clamp (by omega)]
  · rw [s2, nI_clamp (by omega)] at hr
    obtain ⟨f, e, f1, f2, f3, f4⟩ := s3 r hr
    simp only [f3, f4]
    rw [nI_clamp (by omega), nI_clamp (by omega)]
    exact ⟨rfl, rfl, by omega, by omega⟩
theorem zWt_le {h : zHp} {t nc nk nl nt np c i : Nat} (hN : zIN h t nc nk nl nt np) (hc : c < np) (hi : i < nk) : zWt h c i ≤ 1499499 := by
  obtain ⟨-, -, ⟨-, -, y1, -⟩, -, -, -, -, ⟨-, -, p3⟩, -⟩ := hN
  obtain ⟨-, -, ⟨m, m1, m2, m3⟩, -, -⟩ := y1 i hi
  obtain ⟨-, -, f, e, f1, f2, f3, f4⟩ := p3 c hc
  unfold zWt zOpen
  split
  · rw [m3, nI_clamp (by omega), f3, f4, nI_clamp (by omega), nI_clamp (by omega)]
    have h1 := zoc_le (zShut h i) (e + 1 - f) f
    have h2 : m * zoc (zShut h i) f (e + 1 - f) ≤ 999 * 1501 := Nat.mul_le_mul (by omega) (by omega)
    omega
  · omega
theorem e_weight {h : zHp} {t nc nk nl nt np c i : Nat} (hN : zIN h t nc nk nl nt np) (hc : c < np) (hi : i < nk) : s_X1_weightOf (nI c) (nI i) h = some (nI (zWt h c i), h) := by
  obtain ⟨-, -, ⟨⟨k1, k2, k3⟩, -, y1, -⟩, hs, -, -, -, ⟨⟨q1, q2, q3⟩, -, p3⟩, -⟩ := hN
  obtain ⟨-, -, ⟨m, m1, m2, m3⟩, -, -⟩ := y1 i hi
  obtain ⟨-, -, f, e, f1, f2, f3, f4⟩ := p3 c hc
  have o := e_open (zSH_of hs (show i < 20 by omega)) (show f ≤ 1500 by omega) f2
  have zc : ∀ (k : Nat), zri h k 20 (nI c) = some (h.1 k c) := fun k => zri_ok (by omega) (by decide)
  have zi : ∀ (k : Nat), zri h k 20 (nI i) = some (h.1 k i) := fun k => zri_ok (by omega) (by decide)
  unfold zWt zOpen
  by_cases c1 : h.1 15 i = h.1 53 c
  · by_cases c2 : ((h.1 18 i >>> (h.1 56 c &&& 31)) &&& (1 : Int32)) = 0
    · simp only [s_X1_weightOf, s_X4_isMeant, s_X4_isMeant_L27, s_X4_isMeant_L28, zc, zi, Option.bind_some, c1, c2, reduceIte, zbo0, not_true_eq_false, and_false, nI_0]
    · simp only [s_X1_weightOf, s_X4_isMeant, s_X4_isMeant_L27, s_X4_isMeant_L28, zc, zi, Option.bind_some, c1, c2, reduceIte, zbo1, z10, not_false_eq_true, and_self, f3, f4, o, s_X4_mouthsOf, m3]
      rw [pk_mul, nI_clamp (by omega), nI_clamp (by omega), nI_clamp (by omega)]
      rfl
  · simp only [s_X1_weightOf, s_X4_isMeant, s_X4_isMeant_L27, s_X4_isMeant_L28, zc, zi, Option.bind_some, c1, reduceIte, zbo0, false_and, nI_0]
theorem m_weight1 {h : zHp} {t nc nk nl nt np c i to : Nat} (hN : zIN h t nc nk nl nt np) (hc : c < np) (hi : i < nk) (hto : to ≤ 1500) (e55 : h.1 55 c = nI to) : ∀ m d acc f, d + m = to + 1 → m < f → s_X10_weightOf_L45 f (nI c) (nI i) (nI acc) (nI d) h = some (nI (acc + zoc (zShut h i) d m) * h.1 16 i, h)
  | 0, d, acc, f + 1, hm, hf => by
    obtain ⟨-, -, ⟨⟨k1, k2, k3⟩, ⟨-, -, g16, -⟩, y1, -⟩, hs, -, -, -, ⟨⟨q1, q2, q3⟩, ⟨-, -, g55, -⟩, p3⟩, -⟩ := hN
    simp only [s_X10_weightOf_L45, zriA (show c < 20 by omega) (by decide), zriA (show i < 20 by omega) (by decide), ← g55, ← g16, e55, Option.bind_some, nI_lt (show to < d by omega) (show d < 2 ^ 31 by omega), reduceIte, zoc, Nat.add_zero]
  | m + 1, d, acc, f + 1, hm, hf => by
    have ih := m_weight1 hN hc hi hto e55 m (d + 1) (acc + if zShut h i d then 0 else 1) f (by omega) (by omega)
    obtain ⟨-, -, ⟨⟨k1, k2, k3⟩, ⟨-, -, g16, -⟩, y1, -⟩, hs, -, -, -, ⟨⟨q1, q2, q3⟩, ⟨-, -, g55, -⟩, p3⟩, -⟩ := hN
    have sh := m_shut1 (zSH_of hs (show i < 20 by omega)) hs.1.1 hs.1.2.1 hs.1.2.2 (show d ≤ 1501 by omega) (s_X10_weightOf_L45 f) (nI c) (nI acc) (h.1 21 i).toNatClampNeg 0 zFU (by omega) (zFU_gt (by have := (zSH_of hs (show i < 20 by omega)).2.1; omega))
    rw [show zb2 (zshu (fun r => (h.1 22 (8 * i + r)).toNatClampNeg) (fun r => (h.1 23 (8 * i + r)).toNatClampNeg) d 0) = 0 from rfl, nI_0] at sh
    simp only [s_X10_weightOf_L45, zriA (show c < 20 by omega) (by decide), ← g55, e55, Option.bind_some, nI_nlt (show d ≤ to by omega) (show to < 2 ^ 31 by omega), reduceIte]
    rw [sh, zoc, ← Nat.add_assoc, ← ih]
    rw [show zshu (fun r => (h.1 22 (8 * i + r)).toNatClampNeg) (fun r => (h.1 23 (8 * i + r)).toNatClampNeg) d (h.1 21 i).toNatClampNeg = zShut h i d from rfl]
    cases zShut h i d
    · simp only [Bool.false_eq_true, reduceIte, nI_1]
    · simp only [reduceIte, Int32.add_zero, Nat.add_zero]
theorem m_weight {h : zHp} {t nc nk nl nt np c i : Nat} (hN : zIN h t nc nk nl nt np) (hc : c < np) (hi : i < nk) : s_X10_weightOf (nI c) (nI i) h = some (nI (zWt h c i), h) := by
  have hN0 := hN
  obtain ⟨-, -, ⟨⟨k1, k2, k3⟩, ⟨-, g15, g16, -, g18, -⟩, y1, -⟩, hs, -, -, -, ⟨⟨q1, q2, q3⟩, ⟨g53, g54, g55, g56⟩, p3⟩, -⟩ := hN
  obtain ⟨-, -, ⟨m, m1, m2, m3⟩, -, -⟩ := y1 i hi
  obtain ⟨-, -, f, e, f1, f2, f3, f4⟩ := p3 c hc
  have o := m_weight1 hN0 hc hi f2 f4 (e + 1 - f) f 0 zFU (by omega) (zFU_gt (by omega))
  have zc : ∀ (k : Nat), zri h k 20 (nI c) = some (h.1 k c) := fun k => zri_ok (by omega) (by decide)
  have zi : ∀ (k : Nat), zri h k 20 (nI i) = some (h.1 k i) := fun k => zri_ok (by omega) (by decide)
  unfold zWt zOpen
  by_cases c1 : h.1 15 i = h.1 53 c
  · by_cases c2 : ((h.1 18 i >>> (h.1 56 c &&& 31)) &&& (1 : Int32)) = 0
    · simp only [s_X10_weightOf, s_X10_weightOf_L33, zc, zi, ← g15, ← g18, ← g53, ← g56, Option.bind_some, c1, c2, reduceIte, not_true_eq_false, and_false, nI_0]
    · simp only [s_X10_weightOf, zc, zi, ← g15, ← g18, ← g53, ← g54, ← g56, Option.bind_some, c1, c2, reduceIte, not_false_eq_true, and_self, f3, f4]
      rw [nI_0, Nat.zero_add] at o
      rw [o, m3, pk_mul, nI_clamp (by omega), nI_clamp (by omega), nI_clamp (by omega), Nat.mul_comm]
  · simp only [s_X10_weightOf, s_X10_weightOf_L33, zc, zi, ← g15, ← g53, Option.bind_some, c1, reduceIte, false_and, nI_0]
def zWs (h : zHp) (c : Nat) : Nat → Nat
  | 0 => 0
  | n + 1 => zWs h c n + zWt h c n
theorem zWs_same {h h' : zHp} (hs : zSame h h') (c : Nat) : ∀ n, zWs h' c n = zWs h c n
  | 0 => rfl
  | n + 1 => by rw [zWs, zWs, zWs_same hs c n, zWt_same hs]
theorem zWs_le {h : zHp} {t nc nk nl nt np c : Nat} (hN : zIN h t nc nk nl nt np) (hc : c < np) : ∀ n, n ≤ nk → zWs h c n ≤ 1499499 * n
  | 0, _ => Nat.le_refl _
  | n + 1, h1 => by
    have := zWs_le hN hc n (by omega)
    have := zWt_le hN hc (show n < nk by omega)
    rw [zWs]
    omega
theorem zWs_ge {h : zHp} {c i : Nat} : ∀ n, i < n → zWt h c i ≤ zWs h c n
  | 0, h1 => by omega
  | n + 1, h1 => by
    rw [zWs]
    by_cases e : i = n
    · subst e; omega
    · have := zWs_ge (h := h) (c := c) n (show i < n by omega)
      omega
theorem e_weigh1 {h : zHp} {t nc nk nl nt np c : Nat} (hN : zIN h t nc nk nl nt np) (hc : c < np) : ∀ m i f (G : Nat → Int32), i + m = nk → m < f → (∀ j, j < i → G j = nI (zWt h c j)) → ∃ G' : Nat → Int32, (∀ j, j < nk → G' j = nI (zWt h c j)) ∧ s_X1_weighAll_L4 f (nI c) (nI (zWs h c i)) (nI i) (zgk h 57 G) = some (nI (zWs h c nk), zgk h 57 G')
  | 0, i, f + 1, G, hm, hf, hG => by
    obtain rfl : i = nk := by omega
    have hk := hN.2.2.1.1
    refine ⟨G, hG, ?_⟩
    simp only [s_X1_weighAll_L4, s_X4_size, zgk_ne h G (show 13 ≠ 57 by decide), hk.1, Option.bind_some, nI_le (Nat.le_refl i) (show i < 2 ^ 31 by omega), reduceIte]
  | m + 1, i, f + 1, G, hm, hf, hG => by
    have hk := hN.2.2.1.1
    have hs : zSame h (zgk h 57 G) := zgk_same h G (by decide) (by decide)
    have hw := e_weight (zIN_same hs hN) hc (show i < nk by omega)
    rw [zWt_same hs] at hw
    obtain ⟨G', g1, g2⟩ := e_weigh1 hN hc m (i + 1) f (upd G i (nI (zWt h c i))) (by omega) (by omega) (fun j hj => by
      by_cases e : j = i
      · subst e; rw [pk_us]
      · rw [pk_un e]; exact hG j (by omega))
    refine ⟨G', g1, ?_⟩
    simp only [s_X1_weighAll_L4, s_X4_size, zgk_ne h G (show 13 ≠ 57 by decide), hk.1, Option.bind_some, nI_ge (show i < nk by omega) (show nk < 2 ^ 31 by omega), reduceIte, hw, zuiA (show i < 20 by omega) (by decide), zriA (show i < 20 by omega) (by decide), zgk_wi, zgk_at, pk_us, nI_add, nI_1]
    rw [zWs] at g2
    exact g2
theorem e_weigh {h : zHp} {t nc nk nl nt np c : Nat} (hN : zIN h t nc nk nl nt np) (hc : c < np) : ∃ G : Nat → Int32, (∀ j, j < nk → G j = nI (zWt h c j)) ∧ s_X1_weighAll (nI c) h = some (nI (zWs h c nk), zgk h 57 G) := by
  have hk := hN.2.2.1.1
  obtain ⟨G, g1, g2⟩ := e_weigh1 hN hc nk 0 zFU (h.1 57) (by omega) (zFU_gt (by omega)) (fun j hj => by omega)
  rw [zgk_id, nI_0] at g2
  exact ⟨G, g1, g2⟩
theorem m_weighs1 {h : zHp} {t nc nk nl nt np c : Nat} (hN : zIN h t nc nk nl nt np) (hc : c < np) : ∀ m i f, i + m = nk → m < f → s_X10_weightsOf_L4 f (nI c) (nI (zWs h c i)) (nI i) h = some (nI (zWs h c nk), h)
  | 0, i, f + 1, hm, hf => by
    obtain rfl : i = nk := by omega
    have hk := hN.2.2.1.1
    simp only [s_X10_weightsOf_L4, hk.2.1, nI_le (Nat.le_refl i) (show i < 2 ^ 31 by omega), reduceIte]
  | m + 1, i, f + 1, hm, hf => by
    have hk := hN.2.2.1.1
    have ih := m_weighs1 hN hc m (i + 1) f (by omega) (by omega)
    simp only [s_X10_weightsOf_L4, hk.2.1, Option.bind_some, nI_ge (show i < nk by omega) (show nk < 2 ^ 31 by omega), reduceIte, m_weight hN hc (show i < nk by omega), nI_add, nI_1]
    rw [zWs] at ih
    exact ih
theorem m_weighs {h : zHp} {t nc nk nl nt np c : Nat} (hN : zIN h t nc nk nl nt np) (hc : c < np) : s_X10_weightsOf (nI c) h = some (nI (zWs h c nk), h) := by
  have hk := hN.2.2.1.1
  have g2 := m_weighs1 hN hc nk 0 zFU (by omega) (zFU_gt (by omega))
  rw [nI_0] at g2
  exact g2
theorem lI_i (n : Nat) : (lI (n : Int)).toInt32 = nI n := by rw [lI_N, lN_i]
theorem zldiv32 {a g : Nat} : (lI ((a : Int).tdiv (g : Int))).toInt32 = nI (a / g) := by
  rw [show (a : Int).tdiv (g : Int) = ((a / g : Nat) : Int) from rfl, lI_N, lN_i]
theorem zwl_same {h : zHp} (k i : Nat) (x : Int64) : zSame h (zwl h k i x) := (zSame.rf h).wl k i x
theorem op_part (a1 a2 a3 : Int32) {h : zHp} (hI : zI h) : zop (s_X9_part a1 a2 a3) (s_X10_part a1 a2 a3) h := by
  have hI0 := hI
  obtain ⟨t, nc, nk, nl, nt, np, hN⟩ := hI
  obtain ⟨-, -, ⟨⟨k1, k2, k3⟩, -⟩, -, -, -, -, ⟨⟨p1, p2, p3⟩, -⟩, -⟩ := id hN
  rcases zix a1 (n := np) (by omega) with ⟨hc, hc'⟩ | ⟨c, hcn, rfl, i1, i2, i3⟩
  · refine zop_r1 hI0 ?_ ?_
    · simp only [s_X9_part, s_X9_part_L22, e_hX10 (by rw [p1]; exact hc), Option.bind_some, reduceIte, zbq]
    · simp only [s_X10_part, s_X10_part_L22, zm67, e_in0 (show a1 < 0 ∨ h.1 67 51 - 1 < a1 by rw [p2]; exact hc'), Option.bind_some, reduceIte, zbq]
  have w0 : s_X1_has (nI c) h = some (1, h) := e_hX11 i1 (by rw [p1]; exact i2)
  have v0 : ∀ h' : zHp, h'.1 67 51 = nI np → s_X10_in (nI c) 0 (h'.1 67 51 - 1) h' = some (1, h') := fun h' e => e_in1 i1 (by rw [e]; exact i3)
  rcases zix a2 (n := nk) (by omega) with ⟨hc, hc'⟩ | ⟨i, hin, rfl, j1, j2, j3⟩
  · refine zop_r1 hI0 ?_ ?_
    · simp only [s_X9_part, s_X9_part_L22, w0, e_hX40 (by rw [k1]; exact hc), Option.bind_some, reduceIte, zbq, z10]
    · simp only [s_X10_part, s_X10_part_L22, v0 (zr1 h 1) p2, e_isKitchen0 (h := zr1 h 1) (by rw [zm67, k2]; exact hc'), Option.bind_some, reduceIte, zbq, z10]
  have w1 : s_X4_has (nI i) h = some (1, h) := e_hX41 j1 (by rw [k1]; exact j2)
  have v1 : ∀ h' : zHp, h'.1 67 8 = nI nk → s_X10_isKitchen (nI i) h' = some (1, h') := fun h' e => e_isKitchen1 j1 (by rw [e]; exact j3)
  by_cases c1 : a3 < 0
  · refine zop_r2 hI0 ?_ ?_
    · simp only [s_X9_part, s_X9_part_L37, w0, w1, Option.bind_some, reduceIte, zbq, z10, c1]
    · simp only [s_X10_part, v0 (zr1 h 2) p2, v1 (zr1 h 2) k2, e_in0 (Or.inl c1), Option.bind_some, reduceIte, zbq, z10]
  by_cases c2 : ¬ a3 ≤ 1
  · refine zop_r2 hI0 ?_ ?_
    · simp only [s_X9_part, s_X9_part_L37, w0, w1, Option.bind_some, reduceIte, zbq, z10, c1, c2]
    · simp only [s_X10_part, v0 (zr1 h 2) p2, v1 (zr1 h 2) k2, e_in0 (Or.inr (znle.mp c2)), Option.bind_some, reduceIte, zbq, z10]
  have c2 := Decidable.not_not.mp c2
  have v3 : ∀ h' : zHp, s_X10_in a3 0 1 h' = some (1, h') := fun h' => e_in1 c1 (znlt.mpr c2)
  obtain ⟨G, g1, g2⟩ := e_weigh hN hcn
  have hs : zSame h (zgk h 57 G) := zgk_same h G (by decide) (by decide)
  have w57 : zri (zgk h 57 G) 57 20 (nI i) = some (nI (zWt h c i)) := by rw [zriA (show i < 20 by omega) (by decide), zgk_at, g1 i hin]
  have l1 := zWt_le hN hcn hin
  have l2 := zWs_le hN hcn nk (Nat.le_refl _)
  have l3 := zWs_ge (h := h) (c := c) nk hin
  by_cases c3 : zWt h c i = 0
  · -- the part is 0 by 1
    have key : ∃ h1, s_X1_shareOf (nI c) (nI i) h = some h1 ∧ zSame h h1 ∧ h1.2 58 0 = 0 ∧ h1.2 58 1 = 1 := by
      by_cases c4 : zWs h c nk = 0
      · refine ⟨zwl (zwl (zgk h 57 G) 58 0 0) 58 1 1, ?_, hs, ?_, ?_⟩
        · have eg := e_gcd (a := 0) (b := 0) (h := zwl (zwl (zgk h 57 G) 58 0 0) 58 1 1) (by decide) (by decide)
          rw [show lI ((0 : Nat) : Int) = 0 from lI_0] at eg
          have ea := e_abs (a := 0) (h := zwl (zwl (zgk h 57 G) 58 0 0) 58 1 1) zB0
          rw [lI_0, show lI (((0 : Int).natAbs : Nat) : Int) = 0 from lI_0] at ea
          simp only [s_X1_shareOf, g2, w57, Option.bind_some, c3, c4, nI_0, show (0 : Int32).toInt64 = 0 from by decide +kernel, s_X2_put_58, s_X2_put_58_L49, zpl, ea, eg, show (0 : Int64) ≤ 0 from by decide +kernel, reduceIte]
        · rw [zwl_self, pk_uLn (by decide), zwl_self, pk_uLs]
        · rw [zwl_self, pk_uLs]
      · have b1 : zB (zWs h c nk : Int) := ⟨by omega, by omega⟩
        have ep := e_put_58 (h := zgk h 57 G) (a := 0) (b := (zWs h c nk : Int)) zB0 b1 (by omega)
        refine ⟨zwl (zwl (zwl (zwl (zgk h 57 G) 58 0 0) 58 1 1) 58 0 (lI (Int.tdiv 0 (Int.gcd 0 (zWs h c nk : Int))))) 58 1 (lI ((zWs h c nk : Int).tdiv (Int.gcd 0 (zWs h c nk : Int)))), ?_, hs, ?_, ?_⟩
        · simp only [s_X1_shareOf, g2, w57, Option.bind_some, c3, lI_nI (show 0 < 2 ^ 31 by decide), lI_nI (show zWs h c nk < 2 ^ 31 by omega), show ((0 : Nat) : Int) = 0 from rfl]
          rw [ep]
          rfl
        · rw [zwl2.1, Int.zero_tdiv, lI_0]
        · rw [zwl2.2]
          rw [show Int.gcd 0 (zWs h c nk : Int) = zWs h c nk from by simp, Int.tdiv_self (by omega), lI_1]
    obtain ⟨h1, s1, s2, s3, s4⟩ := key
    have mw := m_weight (zIN_same s2 hN) hcn hin
    rw [zWt_same s2, c3, nI_0] at mw
    have e51 : h1.1 67 51 = nI np := (s2.2 51 (by decide) (by decide)).trans p2
    have e8 : h1.1 67 8 = nI nk := (s2.2 8 (by decide) (by decide)).trans k2
    have ha3 : a3 = 0 ∨ a3 = 1 := by
      rw [Int32.lt_iff_toInt_lt, Int32.toInt_zero] at c1
      rw [Int32.le_iff_toInt_le] at c2
      have e1 : (1 : Int32).toInt = 1 := by decide
      have : a3.toInt = 0 ∨ a3.toInt = 1 := by omega
      rcases this with z | z
      · left; exact Int32.toInt_inj.mp (by rw [z]; rfl)
      · right; exact Int32.toInt_inj.mp (by rw [z, e1])
    refine zop_ok (r := a3) (h1 := h1) (h2 := h1) ?_ ?_ (zI_same s2 hI0)
    · simp only [s_X9_part, w0, w1, Option.bind_some, reduceIte, z10, c1, c2, s1, s_X2_piece_58, s_X2_piece_58_L15, s3, s4]
      rcases ha3 with rfl | rfl
      · simp only [reduceIte, Option.bind_some, show (0 : Int64).toInt32 = 0 from by decide +kernel]
      · simp only [reduceIte, z10, Option.bind_some, show (1 : Int64).toInt32 = 1 from by decide +kernel]
    · simp only [s_X10_part, v0 h1 e51, v1 h1 e8, v3, Option.bind_some, reduceIte, z10, mw]
  · have b0 : zB (zWt h c i : Int) := ⟨by omega, by omega⟩
    have b1 : zB (zWs h c nk : Int) := ⟨by omega, by omega⟩
    have ep := e_put_58 (h := zgk h 57 G) b0 b1 (by omega)
    obtain ⟨g3, g4⟩ := zgcdB (a := (zWt h c i : Int)) b1 (by omega)
    have gW : Int.gcd (zWt h c i : Int) (zWs h c nk : Int) = Nat.gcd (zWt h c i) (zWs h c nk) := rfl
    have gl : Nat.gcd (zWt h c i) (zWs h c nk) ≤ zWt h c i := Nat.le_of_dvd (by omega) (Nat.gcd_dvd_left _ _)
    have sh : s_X1_shareOf (nI c) (nI i) h = some (zwl (zwl (zwl (zwl (zgk h 57 G) 58 0 0) 58 1 1) 58 0 (lI ((zWt h c i : Int).tdiv (Int.gcd (zWt h c i : Int) (zWs h c nk : Int))))) 58 1 (lI ((zWs h c nk : Int).tdiv (Int.gcd (zWt h c i : Int) (zWs h c nk : Int))))) := by
      simp only [s_X1_shareOf, g2, w57, Option.bind_some, lI_nI (show zWt h c i < 2 ^ 31 by omega), lI_nI (show zWs h c nk < 2 ^ 31 by omega)]
      rw [ep]
      rfl
    have mwb : ∀ h1 : zHp, zSame h h1 → s_X10_weightOf (nI c) (nI i) h1 = some (nI (zWt h c i), h1) ∧ s_X10_weightsOf (nI c) h1 = some (nI (zWs h c nk), h1) ∧ h1.1 67 51 = nI np ∧ h1.1 67 8 = nI nk := fun h1 s2 => by
      have mw := m_weight (zIN_same s2 hN) hcn hin
      have mv := m_weighs (zIN_same s2 hN) hcn
      rw [zWt_same s2] at mw
      rw [zWs_same s2] at mv
      exact ⟨mw, mv, (s2.2 51 (by decide) (by decide)).trans p2, (s2.2 8 (by decide) (by decide)).trans k2⟩
    generalize hz : zwl (zwl (zwl (zwl (zgk h 57 G) 58 0 0) 58 1 1) 58 0 (lI ((zWt h c i : Int).tdiv (Int.gcd (zWt h c i : Int) (zWs h c nk : Int))))) 58 1 (lI ((zWs h c nk : Int).tdiv (Int.gcd (zWt h c i : Int) (zWs h c nk : Int)))) = h1 at sh
    have s2 : zSame h h1 := by rw [← hz]; exact hs
    have s3 : h1.2 58 0 = lI ((zWt h c i : Int).tdiv (Int.gcd (zWt h c i : Int) (zWs h c nk : Int))) := by rw [← hz]; exact zwl2.1
    have s4 : h1.2 58 1 = lI ((zWs h c nk : Int).tdiv (Int.gcd (zWt h c i : Int) (zWs h c nk : Int))) := by rw [← hz]; exact zwl2.2
    obtain ⟨mw, mv, e51, e8⟩ := mwb h1 s2
    have mg := m_gcd (h := h1) b0 b1
    rw [gW] at s3 s4 mg g3 g4
    have z1 := zdivA (a := zWt h c i) (d := Nat.gcd (zWt h c i) (zWs h c nk)) (by omega) g3 (by omega)
    have z2 := zdivA (a := zWs h c nk) (d := Nat.gcd (zWt h c i) (zWs h c nk)) (by omega) g3 (by omega)
    have n0 : ¬ nI (zWt h c i) = 0 := nI_ne0 (by omega) (by omega)
    by_cases c5 : a3 = 0
    · refine zop_ok (r := nI (zWt h c i / Nat.gcd (zWt h c i) (zWs h c nk))) (h1 := h1) (h2 := h1) ?_ ?_ (zI_same s2 hI0)
      · simp only [s_X9_part, w0, w1, Option.bind_some, reduceIte, z10, c1, c2, sh, s_X2_piece_58, s_X2_piece_58_L15, s3, if_pos c5]
        rw [zldiv32]
      · simp only [s_X10_part, s_X10_part_L95, v0 h1 e51, v1 h1 e8, v3, Option.bind_some, reduceIte, z10, mw, n0, mv, lI_nI (show zWt h c i < 2 ^ 31 by omega), lI_nI (show zWs h c nk < 2 ^ 31 by omega), mg, if_pos c5, lI_i, z1]
    · refine zop_ok (r := nI (zWs h c nk / Nat.gcd (zWt h c i) (zWs h c nk))) (h1 := h1) (h2 := h1) ?_ ?_ (zI_same s2 hI0)
      · simp only [s_X9_part, w0, w1, Option.bind_some, reduceIte, z10, c1, c2, sh, s_X2_piece_58, s_X2_piece_58_L15, s4, c5]
        rw [zldiv32]
      · simp only [s_X10_part, s_X10_part_L95, v0 h1 e51, v1 h1 e8, v3, Option.bind_some, reduceIte, z10, mw, n0, mv, lI_nI (show zWt h c i < 2 ^ 31 by omega), lI_nI (show zWs h c nk < 2 ^ 31 by omega), mg, c5, lI_i, z2]

/-- the first kitchen that has more than a half -/
def zJo (h : zHp) (c W : Nat) : Nat → Nat → Int32
  | 0, _ => -9
  | m + 1, i => if 2 * zWt h c i ≤ W then zJo h c W m (i + 1) else nI i
theorem zJo_same {h h' : zHp} (hs : zSame h h') (c W : Nat) : ∀ m i, zJo h' c W m i = zJo h c W m i
  | 0, _ => rfl
  | m + 1, i => by rw [zJo, zJo, zJo_same hs c W m (i + 1), zWt_same hs]
theorem zJo_rng (h : zHp) (c W : Nat) : ∀ m i, zJo h c W m i = -9 ∨ ∃ j, j < i + m ∧ zJo h c W m i = nI j
  | 0, _ => Or.inl rfl
  | m + 1, i => by
    rw [zJo]
    split
    · rcases zJo_rng h c W m (i + 1) with z | ⟨j, z1, z2⟩
      · exact Or.inl z
      · exact Or.inr ⟨j, by omega, z2⟩
    · exact Or.inr ⟨i, by omega, rfl⟩
theorem e_join1 {h : zHp} {t nc nk nl nt np c : Nat} (hN : zIN h t nc nk nl nt np) (hc : c < np) {G : Nat → Int32} (hG : ∀ j, j < nk → G j = nI (zWt h c j)) : ∀ m i f, i + m = nk → m < f → s_X1_kitchenOf_L8 f (nI (zWs h c nk)) (nI i) (zgk h 57 G) = some (zJo h c (zWs h c nk) m i, zgk h 57 G)
  | 0, i, f + 1, hm, hf => by
    obtain rfl : i = nk := by omega
    have hk := hN.2.2.1.1
    simp only [s_X1_kitchenOf_L8, s_X4_size, zgk_ne h G (show 13 ≠ 57 by decide), hk.1, Option.bind_some, nI_le (Nat.le_refl i) (show i < 2 ^ 31 by omega), reduceIte, zJo]
  | m + 1, i, f + 1, hm, hf => by
    have hk := hN.2.2.1.1
    have ih := e_join1 hN hc hG m (i + 1) f (by omega) (by omega)
    have l1 := zWt_le hN hc (show i < nk by omega)
    have l2 := zWs_le hN hc nk (Nat.le_refl _)
    simp only [s_X1_kitchenOf_L8, s_X4_size, zgk_ne h G (show 13 ≠ 57 by decide), hk.1, Option.bind_some, nI_ge (show i < nk by omega) (show nk < 2 ^ 31 by omega), reduceIte, zriA (show i < 20 by omega) (by decide), zgk_at, hG i (by omega), nI_1]
    rw [show (2 : Int32) = nI 2 from by decide, pk_mul, zJo]
    by_cases c1 : 2 * zWt h c i ≤ zWs h c nk
    · rw [if_pos (nI_le c1 (by omega)), if_pos c1]; exact ih
    · rw [if_neg (nI_ge (by omega) (by omega)), if_neg c1]
theorem e_join {h : zHp} {t nc nk nl nt np c : Nat} (hN : zIN h t nc nk nl nt np) (hc : c < np) : ∃ h1, s_X1_kitchenOf (nI c) h = some (zJo h c (zWs h c nk) nk 0, h1) ∧ zSame h h1 := by
  have hk := hN.2.2.1.1
  obtain ⟨G, g1, g2⟩ := e_weigh hN hc
  have ej := e_join1 hN hc g1 nk 0 zFU (by omega) (zFU_gt (by omega))
  refine ⟨zgk h 57 G, ?_, zgk_same h G (by decide) (by decide)⟩
  unfold s_X1_kitchenOf
  rw [g2, zbs rfl]
  rw [nI_0] at ej
  exact ej
theorem m_join1 {h : zHp} {t nc nk nl nt np c : Nat} (hN : zIN h t nc nk nl nt np) (hc : c < np) : ∀ m i f, i + m = nk → m < f → s_X10_joinedTo_L8 f (nI c) (nI (zWs h c nk)) (nI i) h = some (zJo h c (zWs h c nk) m i, h)
  | 0, i, f + 1, hm, hf => by
    obtain rfl : i = nk := by omega
    have hk := hN.2.2.1.1
    simp only [s_X10_joinedTo_L8, hk.2.1, Option.bind_some, nI_le (Nat.le_refl i) (show i < 2 ^ 31 by omega), reduceIte, zJo]
  | m + 1, i, f + 1, hm, hf => by
    have hk := hN.2.2.1.1
    have ih := m_join1 hN hc m (i + 1) f (by omega) (by omega)
    have l1 := zWt_le hN hc (show i < nk by omega)
    have l2 := zWs_le hN hc nk (Nat.le_refl _)
    simp only [s_X10_joinedTo_L8, hk.2.1, Option.bind_some, nI_ge (show i < nk by omega) (show nk < 2 ^ 31 by omega), reduceIte, m_weight hN hc (show i < nk by omega), nI_1, lI_nI (show zWt h c i < 2 ^ 31 by omega), lI_nI (show zWs h c nk < 2 ^ 31 by omega)]
    rw [show (2 : Int64) = lI 2 from by decide +kernel, lI_mul, zJo]
    have e := lI_le (a := 2 * (zWt h c i : Int)) (b := (zWs h c nk : Int)) ⟨by omega, by omega⟩ ⟨by omega, by omega⟩
    by_cases c1 : 2 * zWt h c i ≤ zWs h c nk
    · rw [if_pos (e.mpr (by omega)), if_pos c1]; exact ih
    · rw [if_neg (fun z => c1 (by have := e.mp z; omega)), if_neg c1]
theorem m_join {h : zHp} {t nc nk nl nt np c : Nat} (hN : zIN h t nc nk nl nt np) (hc : c < np) : s_X10_joinedTo (nI c) h = some (zJo h c (zWs h c nk) nk 0, h) := by
  have hk := hN.2.2.1.1
  have ej := m_join1 hN hc nk 0 zFU (by omega) (zFU_gt (by omega))
  unfold s_X10_joinedTo
  rw [m_weighs hN hc, zbs rfl]
  rw [nI_0] at ej
  exact ej
theorem op_joined (a1 : Int32) {h : zHp} (hI : zI h) : zop (s_X9_joined a1) (s_X10_joined a1) h := by
  have hI0 := hI
  obtain ⟨t, nc, nk, nl, nt, np, hN⟩ := hI
  obtain ⟨-, -, -, -, -, -, -, ⟨⟨p1, p2, p3⟩, -⟩, -⟩ := id hN
  rcases zix a1 (n := np) (by omega) with ⟨hc, hc'⟩ | ⟨c, hcn, rfl, i1, i2, i3⟩
  · refine zop_r1 hI0 ?_ ?_
    · simp only [s_X9_joined, e_hX10 (by rw [p1]; exact hc), Option.bind_some, reduceIte, zbq]
    · simp only [s_X10_joined, s_X10_joined_L27, zm67, e_in0 (show a1 < 0 ∨ h.1 67 51 - 1 < a1 by rw [p2]; exact hc'), Option.bind_some, reduceIte, zbq]
  have w0 : s_X1_has (nI c) h = some (1, h) := e_hX11 i1 (by rw [p1]; exact i2)
  have v0 : ∀ h' : zHp, h'.1 67 51 = nI np → s_X10_in (nI c) 0 (h'.1 67 51 - 1) h' = some (1, h') := fun h' e => e_in1 i1 (by rw [e]; exact i3)
  obtain ⟨h1, q1, q2⟩ := e_join hN hcn
  have q3 := m_join (zIN_same q2 hN) hcn
  rw [zJo_same q2, zWs_same q2] at q3
  refine zop_ok (r := zJo h c (zWs h c nk) nk 0) (h1 := h1) (h2 := h1) ?_ ?_ (zI_same q2 hI0)
  · simp only [s_X9_joined, w0, Option.bind_some, reduceIte, z10, q1]
  · simp only [s_X10_joined, s_X10_joined_L27, v0 h1 ((q2.2 51 (by decide) (by decide)).trans p2), Option.bind_some, reduceIte, z10, q3]
/-- how many are joined -/
def zJs (h : zHp) (nk : Nat) : Nat → Nat
  | 0 => 0
  | n + 1 => zJs h nk n + if zJo h n (zWs h n nk) nk 0 = -9 then 0 else 1
theorem e_js1 {h : zHp} {t nc nk nl nt np : Nat} (hN : zIN h t nc nk nl nt np) : ∀ m i f h1, i + m = np → m < f → zSame h h1 → ∃ h2, s_X1_joinedSize_L4 f (nI (zJs h nk i)) (nI i) h1 = some (nI (zJs h nk np), h2) ∧ zSame h h2
  | 0, i, f + 1, h1, hm, hf, hs => by
    obtain rfl : i = np := by omega
    have hp := hN.2.2.2.2.2.2.2.1.1
    refine ⟨h1, ?_, hs⟩
    simp only [s_X1_joinedSize_L4, hs.1 52 (by decide), hp.1, nI_le (Nat.le_refl i) (show i < 2 ^ 31 by omega), reduceIte]
  | m + 1, i, f + 1, h1, hm, hf, hs => by
    have hp := hN.2.2.2.2.2.2.2.1.1
    obtain ⟨h2, q1, q2⟩ := e_join (zIN_same hs hN) (show i < np by omega)
    rw [zJo_same hs, zWs_same hs] at q1
    obtain ⟨h3, r1, r2⟩ := e_js1 hN m (i + 1) f h2 (by omega) (by omega) (hs.tr q2)
    refine ⟨h3, ?_, r2⟩
    simp only [s_X1_joinedSize_L4, s_X1_joinedSize_L25, hs.1 52 (by decide), hp.1, nI_ge (show i < np by omega) (show np < 2 ^ 31 by omega), reduceIte, q1, Option.bind_some, nI_1]
    rw [zJs] at r1
    by_cases c : zJo h i (zWs h i nk) nk 0 = -9
    · rw [if_pos c] at r1 ⊢; exact r1
    · rw [if_neg c] at r1 ⊢; exact r1
theorem m_js1 {h : zHp} {t nc nk nl nt np : Nat} (hN : zIN h t nc nk nl nt np) : ∀ m i f, i + m = np → m < f → s_X10_count_L115 f (nI (zJs h nk i)) (nI i) h = some (nI (zJs h nk np), h)
  | 0, i, f + 1, hm, hf => by
    obtain rfl : i = np := by omega
    have hp := hN.2.2.2.2.2.2.2.1.1
    simp only [s_X10_count_L115, hp.2.1, nI_le (Nat.le_refl i) (show i < 2 ^ 31 by omega), reduceIte]
  | m + 1, i, f + 1, hm, hf => by
    have hp := hN.2.2.2.2.2.2.2.1.1
    have hk := hN.2.2.1.1
    have q1 := m_join hN (show i < np by omega)
    have ih := m_js1 hN m (i + 1) f (by omega) (by omega)
    simp only [s_X10_count_L115, s_X10_count_L137, hp.2.1, nI_ge (show i < np by omega) (show np < 2 ^ 31 by omega), reduceIte, q1, Option.bind_some, nI_1]
    rw [zJs] at ih
    rcases zJo_rng h i (zWs h i nk) nk 0 with c | ⟨j, j1, j2⟩
    · rw [if_pos c] at ih
      rw [c, if_pos (by decide), Int32.add_zero]
      exact ih
    · have c : ¬ zJo h i (zWs h i nk) nk 0 = -9 := fun z => by
        have : (nI j).toInt = (-9 : Int32).toInt := by rw [← j2, z]
        rw [nI_toInt (by omega), show (-9 : Int32).toInt = -9 from by decide] at this
        omega
      rw [if_neg c] at ih
      rw [j2, if_neg (nI_pos (by omega))]
      exact ih
theorem m_tb1 {h : zHp} {n k t : Nat} (hl : zIl h n k t) : ∀ m i f, i + m = n → m < f → s_X10_count_L70 f (nI (zcb (h.1 86) i)) (nI i) h = some (nI (zcb (h.1 86) n), h)
  | 0, i, f + 1, hm, hf => by
    obtain rfl : i = n := by omega
    have hp := hl.1
    simp only [s_X10_count_L70, hp.2.1, nI_le (Nat.le_refl i) (show i < 2 ^ 31 by omega), reduceIte]
  | m + 1, i, f + 1, hm, hf => by
    have hp := hl.1
    have ih := m_tb1 hl m (i + 1) f (by omega) (by omega)
    simp only [s_X10_count_L70, s_X10_count_L93, hp.2.1, nI_ge (show i < n by omega) (show n < 2 ^ 31 by omega), reduceIte, zriA (show i < 80 by omega) (by decide), Option.bind_some, nI_1]
    rw [zcb] at ih
    by_cases c : (0 : Int32) ≤ h.1 86 i
    · rw [if_pos c] at ih
      rw [if_neg (znlt.mpr c)]; exact ih
    · rw [if_neg c] at ih
      rw [if_pos (znle.mp c), Int32.add_zero]; exact ih
theorem op_count (a1 : Int32) {h : zHp} (hI : zI h) : zop (s_X9_count a1) (s_X10_count a1) h := by
  have hI0 := hI
  obtain ⟨t, nc, nk, nl, nt, np, hN⟩ := hI
  obtain ⟨⟨d1, d2, d3⟩, ⟨⟨c1, c2, c3⟩, -⟩, ⟨⟨k1, k2, k3⟩, -⟩, -, ⟨m1, -⟩, hl, ⟨⟨t1, t2, t3⟩, -⟩, ⟨⟨p1, p2, p3⟩, -⟩, -⟩ := id hN
  by_cases g0 : a1 = 0
  · refine zop_ok (r := nI t) (h1 := h) (h2 := h) ?_ ?_ hI0
    · simp only [s_X9_count, g0, reduceIte, d1]
    · simp only [s_X10_count, g0, reduceIte, d2]
  by_cases g1 : a1 = 1
  · refine zop_ok (r := nI nc) (h1 := h) (h2 := h) ?_ ?_ hI0
    · simp only [s_X9_count, g0, g1, reduceIte, c1, s_X0_size, Option.bind_some, z10]
    · simp only [s_X10_count, g0, g1, reduceIte, c2, z10]
  by_cases g2 : a1 = 2
  · refine zop_ok (r := nI nk) (h1 := h) (h2 := h) ?_ ?_ hI0
    · simp only [s_X9_count, if_neg g0, if_neg g1, if_pos g2, k1, s_X4_size, Option.bind_some]
    · simp only [s_X10_count, if_neg g0, if_neg g1, if_pos g2, k2]
  by_cases g3 : a1 = 3
  · refine zop_ok (r := nI nl) (h1 := h) (h2 := h) ?_ ?_ hI0
    · simp only [s_X9_count, if_neg g0, if_neg g1, if_neg g2, if_pos g3, hl.1.1, s_X5_size, Option.bind_some]
    · simp only [s_X10_count, if_neg g0, if_neg g1, if_neg g2, if_pos g3, hl.1.2.1]
  by_cases g4 : a1 = 4
  · have hn := hl.1.2.2
    have q := m_tb1 hl nl 0 zFU (by omega) (zFU_gt (by omega))
    rw [show zcb (h.1 86) 0 = 0 from rfl, nI_0] at q
    refine zop_ok (r := nI (zcb (h.1 86) nl)) (h1 := h) (h2 := h) ?_ ?_ hI0
    · simp only [s_X9_count, if_neg g0, if_neg g1, if_neg g2, if_neg g3, if_pos g4, s_X5_takenBackSize, Option.bind_some, hl.2.2.2.2.2]
    · simp only [s_X10_count, if_neg g0, if_neg g1, if_neg g2, if_neg g3, if_pos g4]; exact q
  by_cases g5 : a1 = 5
  · refine zop_ok (r := nI nt) (h1 := h) (h2 := h) ?_ ?_ hI0
    · simp only [s_X9_count, if_neg g0, if_neg g1, if_neg g2, if_neg g3, if_neg g4, if_pos g5, t1, s_X6_size, Option.bind_some]
    · simp only [s_X10_count, if_neg g0, if_neg g1, if_neg g2, if_neg g3, if_neg g4, if_pos g5, t2]
  by_cases g6 : a1 = 6
  · refine zop_ok (r := nI np) (h1 := h) (h2 := h) ?_ ?_ hI0
    · simp only [s_X9_count, if_neg g0, if_neg g1, if_neg g2, if_neg g3, if_neg g4, if_neg g5, if_pos g6, p1, s_X1_size, Option.bind_some]
    · simp only [s_X10_count, if_neg g0, if_neg g1, if_neg g2, if_neg g3, if_neg g4, if_neg g5, if_pos g6, p2]
  by_cases g7 : a1 = 7
  · obtain ⟨h1, q1, q2⟩ := e_js1 hN np 0 zFU h (by omega) (zFU_gt (by omega)) (zSame.rf h)
    have q3 := m_js1 (zIN_same q2 hN) np 0 zFU (by omega) (zFU_gt (by omega))
    have ejs : ∀ n, zJs h1 nk n = zJs h nk n := fun n => by
      induction n with
      | zero => rfl
      | succ n ih => rw [zJs, zJs, ih, zJo_same q2, zWs_same q2]
    rw [ejs, ejs] at q3
    rw [show zJs h nk 0 = 0 from rfl, nI_0] at q1 q3
    refine zop_ok (r := nI (zJs h nk np)) (h1 := h1) (h2 := h1) ?_ ?_ (zI_same q2 hI0)
    · simp only [s_X9_count, if_neg g0, if_neg g1, if_neg g2, if_neg g3, if_neg g4, if_neg g5, if_neg g6, if_pos g7, s_X1_joinedSize, q1, Option.bind_some]
    · simp only [s_X10_count, if_neg g0, if_neg g1, if_neg g2, if_neg g3, if_neg g4, if_neg g5, if_neg g6, if_pos g7]; exact q3
  have rr := Int32.le_toInt a1
  have rs := Int32.toInt_lt a1
  have e10 : (10 : Int32).toInt = 10 := by decide
  have e1 : (1 : Int32).toInt = 1 := by decide
  have e7 : (7 : Int32).toInt = 7 := by decide
  have e11 : (11 : Int32).toInt = 11 := by decide
  have e17 : (17 : Int32).toInt = 17 := by decide
  have eb : (a1 - 10).toInt = (a1.toInt - 10).bmod (2 ^ 32) := by rw [Int32.toInt_sub, e10]
  by_cases b : 11 ≤ a1.toInt ∧ a1.toInt ≤ 17
  · obtain ⟨j, j1, j2, rfl⟩ := znat (x := a1) (a := 11) (b := 17) (by omega) (by omega)
    have ej : nI j - (10 : Int32) = nI (j - 10) := pk_sub (b := 10) (by omega)
    have u1 : ¬ nI (j - 10) < 1 := nI_nlt (b := 1) (show 1 ≤ j - 10 by omega) (by omega)
    have u2 : ¬ (7 : Int32) < nI (j - 10) := nI_nlt (a := 7) (show j - 10 ≤ 7 by omega) (by omega)
    have u3 : ¬ nI j < 11 := nI_nlt (b := 11) j1 (by omega)
    have u4 : ¬ (17 : Int32) < nI j := nI_nlt (a := 17) j2 (by decide)
    refine zop_ok (r := h.1 1 (j - 10)) (h1 := h) (h2 := h) ?_ ?_ hI0
    · simp only [s_X9_count, if_neg g0, if_neg g1, if_neg g2, if_neg g3, if_neg g4, if_neg g5, if_neg g6, if_neg g7, s_X9_refusalsOf, s_X9_refusalsOf_L22, ej, if_neg u1, if_neg u2, zriA (show j - 10 < 8 by omega) (by decide), Option.bind_some]
    · simp only [s_X10_count, s_X10_count_L172, if_neg g0, if_neg g1, if_neg g2, if_neg g3, if_neg g4, if_neg g5, if_neg g6, if_neg g7, e_in1 u3 u4, Option.bind_some, z10, reduceIte, ej, zriA (show j - 10 < 8 by omega) (by decide), ← m1]
  · have f1 : a1 - 10 < 1 ∨ (7 : Int32) < a1 - 10 := by
      rw [Int32.lt_iff_toInt_lt, Int32.lt_iff_toInt_lt, eb, e1, e7]
      have : (a1.toInt - 10).bmod (2 ^ 32) = a1.toInt - 10 ∨ (a1.toInt - 10).bmod (2 ^ 32) = a1.toInt - 10 + 2 ^ 32 := by
        rw [Int.bmod_def]
        omega
      omega
    refine zop_ok (r := -9) (h1 := h) (h2 := h) ?_ ?_ hI0
    · simp only [s_X9_count, if_neg g0, if_neg g1, if_neg g2, if_neg g3, if_neg g4, if_neg g5, if_neg g6, if_neg g7, s_X9_refusalsOf, s_X9_refusalsOf_L20, s_X9_refusalsOf_L22]
      by_cases f2 : a1 - 10 < 1
      · simp only [f2, reduceIte, Option.bind_some]
      · simp only [f2, f1.resolve_left f2, reduceIte, Option.bind_some]
    · have f3 : a1 < 11 ∨ (17 : Int32) < a1 := by
        rw [Int32.lt_iff_toInt_lt, Int32.lt_iff_toInt_lt, e11, e17]
        omega
      simp only [s_X10_count, s_X10_count_L172, if_neg g0, if_neg g1, if_neg g2, if_neg g3, if_neg g4, if_neg g5, if_neg g6, if_neg g7, e_in0 f3, Option.bind_some, reduceIte]

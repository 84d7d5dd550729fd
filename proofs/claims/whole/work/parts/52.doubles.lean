/-! ===== doubles ===== -/
def zDb (h : zHp) (a b : Nat) : Prop := h.1 25 a = h.1 25 b ∧ h.1 27 a = h.1 27 b ∧ ¬ h.1 26 a = h.1 26 b ∧ h.1 29 a = 1501 ∧ h.1 29 b = 1501
theorem zDb_symm (h : zHp) (a b : Nat) : zDb h a b ↔ zDb h b a := by
  unfold zDb
  constructor
  · rintro ⟨a1, a2, a3, a4, a5⟩; exact ⟨a1.symm, a2.symm, fun z => a3 z.symm, a5, a4⟩
  · rintro ⟨a1, a2, a3, a4, a5⟩; exact ⟨a1.symm, a2.symm, fun z => a3 z.symm, a5, a4⟩
theorem zDb_same {h h' : zHp} (hs : zSame h h') (a b : Nat) : zDb h' a b = zDb h a b := by
  unfold zDb
  rw [hs.1 25 (by decide), hs.1 26 (by decide), hs.1 27 (by decide), hs.1 29 (by decide)]
theorem z1501 {b : Nat} (hb : b ≤ 1500) : ¬ nI b = 1501 := fun z => by
  have := (nI_eq (b := 1501) (by omega) (by decide)).mp z
  omega
theorem e_taken {h : zHp} {n k t i : Nat} (hl : zIl h n k t) (ht : t ≤ 1500) (hi : i < n) : s_X5_isTakenBack (nI i) h = some ((if h.1 29 i = 1501 then 0 else 1), h) := by
  have hn := hl.1.2.2
  obtain ⟨-, -, -, -, p5⟩ := hl.2.2.1 i hi
  rcases p5 with ⟨b1, b2⟩ | ⟨b, b0, b1, b2⟩
  · rw [e_taken0 (by omega) b1, if_pos b1]
  · rw [e_taken1 (by omega) (show b ≤ 1500 by omega) b1, b1, if_neg (z1501 (by omega))]
theorem e_double {h : zHp} {n k t a b : Nat} (hl : zIl h n k t) (ht : t ≤ 1500) (ha : a < n) (hb : b < n) : s_X3_isDouble (nI a) (nI b) h = some ((if h.1 25 a = h.1 25 b ∧ h.1 27 a = h.1 27 b ∧ ¬ h.1 26 a = h.1 26 b ∧ h.1 29 a = 1501 ∧ h.1 29 b = 1501 then 1 else 0), h) := by
  have hn := hl.1.2.2
  have za : ∀ (c : Nat), zri h c 80 (nI a) = some (h.1 c a) := fun c => zri_ok (by omega) (by decide)
  have zb : ∀ (c : Nat), zri h c 80 (nI b) = some (h.1 c b) := fun c => zri_ok (by omega) (by decide)
  have ta := e_taken hl ht ha
  have tb := e_taken hl ht hb
  simp only [s_X3_isDouble, s_X3_isDouble_L83, s_X3_isDouble_L84, s_X5_kitchenOf, s_X5_dayOf, s_X5_inspectorOf, za, zb, Option.bind_some, ta, tb, zbo0, zbo1]
  by_cases c1 : h.1 25 a = h.1 25 b
  · by_cases c2 : h.1 27 a = h.1 27 b
    · by_cases c3 : h.1 26 a = h.1 26 b
      · simp only [c1, c2, c3, reduceIte, not_true_eq_false, false_and, and_false]
      · by_cases c4 : h.1 29 a = 1501
        · by_cases c5 : h.1 29 b = 1501
          · simp only [c1, c2, c3, c4, c5, reduceIte, not_false_eq_true, and_self]
          · simp only [c1, c2, c3, c4, c5, reduceIte, z10, and_false]
        · simp only [c1, c2, c3, c4, reduceIte, z10, and_false, false_and]
    · simp only [c1, c2, reduceIte, and_false, false_and]
  · simp only [c1, reduceIte, false_and]
theorem m_double {h : zHp} {t nc nk nl nt np a b : Nat} (hN : zIN h t nc nk nl nt np) (ha : a < nl) (hb : b < nl) : s_X10_isDouble (nI a) (nI b) h = some ((if h.1 25 a = h.1 25 b ∧ h.1 27 a = h.1 27 b ∧ ¬ h.1 26 a = h.1 26 b ∧ h.1 29 a = 1501 ∧ h.1 29 b = 1501 then 1 else 0), h) := by
  obtain ⟨⟨d1, d2, d3⟩, -, -, -, -, hl, -⟩ := hN
  have hn := hl.1.2.2
  have za : ∀ (c : Nat), zri h c 80 (nI a) = some (h.1 c a) := fun c => zri_ok (by omega) (by decide)
  have zb : ∀ (c : Nat), zri h c 80 (nI b) = some (h.1 c b) := fun c => zri_ok (by omega) (by decide)
  have e82 : ∀ j, h.1 82 j = h.1 25 j := fun j => congrFun hl.2.1.1.symm j
  have e83 : ∀ j, h.1 83 j = h.1 26 j := fun j => congrFun hl.2.1.2.1.symm j
  have e84 : ∀ j, h.1 84 j = h.1 27 j := fun j => congrFun hl.2.1.2.2.1.symm j
  have key : ∀ i, i < nl → (h.1 28 i ≤ nI t ∧ nI t < h.1 29 i ↔ h.1 29 i = 1501) := fun i hi => by
    obtain ⟨-, -, -, ⟨kk, k1, k2⟩, p5⟩ := hl.2.2.1 i hi
    rcases p5 with ⟨b1, b2⟩ | ⟨b, b0, b1, b2⟩
    · rw [b1, k2]; exact ⟨fun _ => rfl, fun _ => ⟨nI_le k1 (by omega), ztlt d3⟩⟩
    · rw [b1]
      refine ⟨fun z => absurd z.2 (nI_nlt b0 (by omega)), fun z => absurd z (z1501 (by omega))⟩
  have ta : s_X10_countsBy (nI a) (nI t) h = some (if h.1 29 a = 1501 then 1 else 0, h) := by
    rw [m_counts hl ha d3 (ztlt d3)]; simp only [key a ha]
  have tb : s_X10_countsBy (nI b) (nI t) h = some (if h.1 29 b = 1501 then 1 else 0, h) := by
    rw [m_counts hl hb d3 (ztlt d3)]; simp only [key b hb]
  simp only [s_X10_isDouble, s_X10_isDouble_L73, s_X10_isDouble_L74, za, zb, e82, e83, e84, Option.bind_some, d2, ta, tb, zbo0, zbo1]
  by_cases c1 : h.1 25 a = h.1 25 b
  · by_cases c2 : h.1 27 a = h.1 27 b
    · by_cases c3 : h.1 26 a = h.1 26 b
      · simp only [c1, c2, c3, reduceIte, not_true_eq_false, false_and, and_false]
      · by_cases c4 : h.1 29 a = 1501
        · by_cases c5 : h.1 29 b = 1501
          · simp only [c1, c2, c3, c4, c5, reduceIte, not_false_eq_true, and_self, z10]
          · simp only [c1, c2, c3, c4, c5, reduceIte, z10, and_false]
        · simp only [c1, c2, c3, c4, reduceIte, and_false, false_and]
    · simp only [c1, c2, reduceIte, and_false, false_and]
  · simp only [c1, reduceIte, false_and]
def zd (h : zHp) (a b : Nat) : Int := if h.1 25 a = h.1 25 b ∧ h.1 27 a = h.1 27 b ∧ ¬ h.1 26 a = h.1 26 b ∧ h.1 29 a = 1501 ∧ h.1 29 b = 1501 then 1 else 0
theorem zd_symm (h : zHp) (a b : Nat) : zd h a b = zd h b a := by
  unfold zd
  have := zDb_symm h a b
  unfold zDb at this
  simp only [this]
/-- sums over a row, over the pairs -/
def zrow (φ : Nat → Int) (i : Nat) : Nat → Int
  | 0 => 0
  | n + 1 => zrow φ i n + if i ≤ n then φ n else 0
def zP1 (φ : Nat → Nat → Int) : Nat → Int
  | 0 => 0
  | n + 1 => zP1 φ n + zrow (φ n) 0 n
def zP2 (φ : Nat → Nat → Int) (N : Nat) : Nat → Int
  | 0 => 0
  | n + 1 => zP2 φ N n + zrow (φ n) (n + 1) N
theorem zrow_none (φ : Nat → Int) : ∀ {i n : Nat}, n ≤ i → zrow φ i n = 0
  | i, 0, _ => rfl
  | i, n + 1, h => by rw [zrow, zrow_none φ (by omega), if_neg (by omega)]; rfl
theorem zP2_step (φ : Nat → Nat → Int) (N : Nat) : ∀ {n : Nat}, n ≤ N → zP2 φ (N + 1) n = zP2 φ N n + zrow (fun i => φ i N) 0 n
  | 0, _ => rfl
  | n + 1, h => by
    rw [zP2, zP2, zP2_step φ N (by omega), zrow, zrow, if_pos (by omega), if_pos (by omega)]
    omega
theorem zP12 (φ : Nat → Nat → Int) (hφ : ∀ a b, φ a b = φ b a) : ∀ N, zP2 φ N N = zP1 φ N
  | 0 => rfl
  | N + 1 => by
    rw [zP2, zP2_step φ N (Nat.le_refl N), zP1, zP12 φ hφ N, zrow_none _ (Nat.le_refl _)]
    rw [show (fun i => φ i N) = φ N from funext fun i => hφ i N]
    omega
theorem zInt32_ofInt_add (a b : Int) : Int32.ofInt a + Int32.ofInt b = Int32.ofInt (a + b) := (Int32.ofInt_add a b).symm
theorem e_dbl1 {h : zHp} {n k t : Nat} (hl : zIl h n k t) (ht : t ≤ 1500) (k4 : Int32 → Int32 → zHp → Option (Int32 × zHp)) {i : Nat} (hi : i < n) (s : Int) : ∀ m j f, j + m = n → m < f → i < j → s_X3_doublesNow_L19 k4 f (Int32.ofInt (s + zrow (zd h i) (i + 1) j)) (nI i) (nI j) h = k4 (Int32.ofInt (s + zrow (zd h i) (i + 1) n)) (nI (i + 1)) h
  | 0, j, f + 1, hm, hf, hij => by
    obtain rfl : j = n := by omega
    have hn := hl.1.2.2
    simp only [s_X3_doublesNow_L19, s_X5_size, hl.1.1, Option.bind_some, nI_le (Nat.le_refl j) (show j < 2 ^ 31 by omega), reduceIte, nI_1]
  | m + 1, j, f + 1, hm, hf, hij => by
    have ih := e_dbl1 hl ht k4 hi s m (j + 1) f (by omega) (by omega) (by omega)
    have hn := hl.1.2.2
    have hd := e_double hl ht hi (show j < n by omega)
    rw [zrow, if_pos (by omega)] at ih
    by_cases c : h.1 25 i = h.1 25 j ∧ h.1 27 i = h.1 27 j ∧ ¬ h.1 26 i = h.1 26 j ∧ h.1 29 i = 1501 ∧ h.1 29 j = 1501
    · rw [if_pos c] at hd
      have hz : zd h i j = 1 := if_pos c
      rw [hz, ← Int.add_assoc, ← zInt32_ofInt_add] at ih
      simp only [s_X3_doublesNow_L19, s_X3_doublesNow_L42, s_X5_size, hl.1.1, Option.bind_some, nI_ge (show j < n by omega) (show n < 2 ^ 31 by omega), reduceIte, hd, nI_1, z10]
      exact ih
    · rw [if_neg c] at hd
      have hz : zd h i j = 0 := if_neg c
      rw [hz, Int.add_zero] at ih
      simp only [s_X3_doublesNow_L19, s_X3_doublesNow_L42, s_X5_size, hl.1.1, Option.bind_some, nI_ge (show j < n by omega) (show n < 2 ^ 31 by omega), reduceIte, hd, nI_1]
      exact ih
theorem e_dbl2 {h : zHp} {n k t : Nat} (hl : zIl h n k t) (ht : t ≤ 1500) : ∀ m i f, i + m = n → m < f → s_X3_doublesNow_L4 f (Int32.ofInt (zP2 (zd h) n i)) (nI i) h = some (Int32.ofInt (zP2 (zd h) n n), h)
  | 0, i, f + 1, hm, hf => by
    obtain rfl : i = n := by omega
    have hn := hl.1.2.2
    simp only [s_X3_doublesNow_L4, s_X5_size, hl.1.1, Option.bind_some, nI_le (Nat.le_refl i) (show i < 2 ^ 31 by omega), reduceIte]
  | m + 1, i, f + 1, hm, hf => by
    have ih := e_dbl2 hl ht m (i + 1) f (by omega) (by omega)
    have hn := hl.1.2.2
    have h1 := e_dbl1 hl ht (s_X3_doublesNow_L4 f) (show i < n by omega) (zP2 (zd h) n i) (n - (i + 1)) (i + 1) zFU (by omega) (zFU_gt (by omega)) (by omega)
    rw [zrow_none _ (Nat.le_refl (i + 1)), Int.add_zero] at h1
    simp only [s_X3_doublesNow_L4, s_X5_size, hl.1.1, Option.bind_some, nI_ge (show i < n by omega) (show n < 2 ^ 31 by omega), reduceIte, nI_1]
    rw [h1]
    exact ih
theorem m_dbl1 {h : zHp} {t nc nk nl nt np : Nat} (hN : zIN h t nc nk nl nt np) (k4 : Int32 → Int32 → zHp → Option (Int32 × zHp)) {i : Nat} (hi : i < nl) (s : Int) : ∀ m j f, j + m = i → m < f → s_X10_doubles_L14 k4 f (Int32.ofInt (s + zrow (zd h i) 0 j)) (nI i) (nI j) h = k4 (Int32.ofInt (s + zrow (zd h i) 0 i)) (nI (i + 1)) h
  | 0, j, f + 1, hm, hf => by
    obtain rfl : j = i := by omega
    have hn := hN.2.2.2.2.2.1.1.2.2
    simp only [s_X10_doubles_L14, nI_le (Nat.le_refl j) (show j < 2 ^ 31 by omega), reduceIte, nI_1]
  | m + 1, j, f + 1, hm, hf => by
    have ih := m_dbl1 hN k4 hi s m (j + 1) f (by omega) (by omega)
    have hn := hN.2.2.2.2.2.1.1.2.2
    have hd := m_double hN hi (show j < nl by omega)
    rw [zrow, if_pos (by omega)] at ih
    by_cases c : h.1 25 i = h.1 25 j ∧ h.1 27 i = h.1 27 j ∧ ¬ h.1 26 i = h.1 26 j ∧ h.1 29 i = 1501 ∧ h.1 29 j = 1501
    · rw [if_pos c] at hd
      have hz : zd h i j = 1 := if_pos c
      rw [hz, ← Int.add_assoc, ← zInt32_ofInt_add] at ih
      simp only [s_X10_doubles_L14, s_X10_doubles_L34, nI_ge (show j < i by omega) (show i < 2 ^ 31 by omega), reduceIte, hd, Option.bind_some, nI_1, z10]
      exact ih
    · rw [if_neg c] at hd
      have hz : zd h i j = 0 := if_neg c
      rw [hz, Int.add_zero] at ih
      simp only [s_X10_doubles_L14, s_X10_doubles_L34, nI_ge (show j < i by omega) (show i < 2 ^ 31 by omega), reduceIte, hd, Option.bind_some, nI_1, Int32.add_zero]
      exact ih
theorem m_dbl2 {h : zHp} {t nc nk nl nt np : Nat} (hN : zIN h t nc nk nl nt np) : ∀ m i f, i + m = nl → m < f → s_X10_doubles_L4 f (Int32.ofInt (zP1 (zd h) i)) (nI i) h = some (Int32.ofInt (zP1 (zd h) nl), h)
  | 0, i, f + 1, hm, hf => by
    obtain rfl : i = nl := by omega
    have hn := hN.2.2.2.2.2.1.1
    simp only [s_X10_doubles_L4, hn.2.1, nI_le (Nat.le_refl i) (show i < 2 ^ 31 by omega), reduceIte]
  | m + 1, i, f + 1, hm, hf => by
    have ih := m_dbl2 hN m (i + 1) f (by omega) (by omega)
    have hn := hN.2.2.2.2.2.1.1
    have h1 := m_dbl1 hN (s_X10_doubles_L4 f) (show i < nl by omega) (zP1 (zd h) i) i 0 zFU (by omega) (zFU_gt (by omega))
    rw [zrow_none _ (Nat.le_refl 0), Int.add_zero, nI_0] at h1
    simp only [s_X10_doubles_L4, hn.2.1, nI_ge (show i < nl by omega) (show nl < 2 ^ 31 by omega), reduceIte]
    rw [h1]
    exact ih
theorem op_doubles {h : zHp} (hI : zI h) : zop s_X9_doubles s_X10_doubles h := by
  have hI0 := hI
  obtain ⟨t, nc, nk, nl, nt, np, hN⟩ := hI
  have hn := hN.2.2.2.2.2.1.1.2.2
  have h1 := e_dbl2 hN.2.2.2.2.2.1 hN.1.2.2 nl 0 zFU (by omega) (zFU_gt (by omega))
  have h2 := m_dbl2 hN nl 0 zFU (by omega) (zFU_gt (by omega))
  refine zop_ok (r := Int32.ofInt (zP1 (zd h) nl)) (h1 := h) (h2 := h) ?_ h2 hI0
  unfold s_X9_doubles
  rw [zbq]
  rw [zP12 (zd h) (zd_symm h)] at h1
  exact h1

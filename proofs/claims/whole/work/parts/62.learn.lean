/-! ===== the equations of the habits, as the class makes them ===== -/
def zin (h : zHp) (a : Nat) : Nat := (h.1 26 a).toNatClampNeg
def zscN (h : zHp) (nc a : Nat) : Nat := zScore h nc a (h.1 27 a)
def zfJ (h : zHp) (i k a b : Nat) : Int := zd h a b * ((if zin h a = i ∧ zin h b = k then 1 else 0) + (if zin h a = k ∧ zin h b = i then 1 else 0))
def zfD (h : zHp) (i a b : Nat) : Int := zd h a b * ((if zin h a = i then 1 else 0) + (if zin h b = i then 1 else 0))
def zfA (h : zHp) (nc i a b : Nat) : Int := zd h a b * ((if zin h a = i then (zscN h nc a : Int) - (zscN h nc b : Int) else 0) + (if zin h b = i then (zscN h nc b : Int) - (zscN h nc a : Int) else 0))
theorem zfJ_symm (h : zHp) (i k a b : Nat) : zfJ h i k a b = zfJ h i k b a := by
  unfold zfJ
  rw [zd_symm h a b, Int.add_comm]
  simp only [and_comm]
theorem zfD_symm (h : zHp) (i a b : Nat) : zfD h i a b = zfD h i b a := by
  unfold zfD
  rw [zd_symm h a b, Int.add_comm]
theorem zfA_symm (h : zHp) (nc i a b : Nat) : zfA h nc i a b = zfA h nc i b a := by
  unfold zfA
  rw [zd_symm h a b, Int.add_comm]
def zJm (h : zHp) (n i k : Nat) : Int := zP1 (zfJ h i k) n
def zDm (h : zHp) (n i : Nat) : Int := zP1 (zfD h i) n
def zAm (h : zHp) (nc n i : Nat) : Int := zP1 (zfA h nc i) n
theorem zd_01 (h : zHp) (a b : Nat) : zd h a b = 0 ∨ zd h a b = 1 := by
  unfold zd
  split
  · right; rfl
  · left; rfl
theorem zfJ_nn (h : zHp) (i k a b : Nat) : 0 ≤ zfJ h i k a b := by
  unfold zfJ
  rcases zd_01 h a b with e | e
  · rw [e, Int.zero_mul]; exact Int.le_refl _
  · rw [e, Int.one_mul]
    split <;> split <;> omega
theorem zrow_nn {φ : Nat → Int} (h : ∀ n, 0 ≤ φ n) (i : Nat) : ∀ n, 0 ≤ zrow φ i n
  | 0 => Int.le_refl _
  | n + 1 => by
    have := zrow_nn h i n
    have := h n
    rw [zrow]
    split <;> omega
theorem zP1_nn {φ : Nat → Nat → Int} (h : ∀ a b, 0 ≤ φ a b) : ∀ n, 0 ≤ zP1 φ n
  | 0 => Int.le_refl _
  | n + 1 => by
    have := zP1_nn h n
    have := zrow_nn (h n) 0 n
    rw [zP1]
    omega
theorem zP2_nn {φ : Nat → Nat → Int} (h : ∀ a b, 0 ≤ φ a b) (N : Nat) : ∀ n, 0 ≤ zP2 φ N n
  | 0 => Int.le_refl _
  | n + 1 => by
    have := zP2_nn h N n
    have := zrow_nn (h n) (n + 1) N
    rw [zP2]
    omega
def zCS (h : zHp) (J : Nat → Nat → Int) (D A : Nat → Int) : Prop :=
  (∀ i k, i < 5 → k < 5 → i ≠ k → h.2 48 (5 * i + k) = lI (-(J i k))) ∧ (∀ i, i < 5 → h.2 48 (5 * i + i) = lI (D i)) ∧ (∀ i, i < 5 → h.2 49 i = lI (A i)) ∧ (∀ i, i < 5 → ∃ m, m < 32 ∧ h.1 50 i = nI m ∧ ∀ k, k < 5 → m.testBit k = decide (0 < J i k))
theorem zix5 {a b : Nat} : nI a * (5 : Int32) + nI b = nI (5 * a + b) ∧ (5 : Int32) * nI a + nI b = nI (5 * a + b) := by
  have e : (5 : Int32) = nI 5 := by decide
  constructor
  · rw [e, pk_mul, nI_add, Nat.mul_comm]
  · rw [e, pk_mul, nI_add]
theorem zbor1 : ∀ m, m < 32 → ∀ y, y < 5 → nI m ||| ((1 : Int32) <<< (nI y &&& 31)) = nI (m ||| 2 ^ y) := by decide +kernel
theorem zbor1lt : ∀ m, m < 32 → ∀ y, y < 5 → m ||| 2 ^ y < 32 := by decide +kernel
theorem e_add1 {h : zHp} {J : Nat → Nat → Int} {D A : Nat → Int} (cs : zCS h J D A) {a b x y sa sb : Nat} (ha : a < 80) (hb : b < 80) (hx : x < 5) (hy : y < 5) (hxy : x ≠ y) (ex : h.1 26 a = nI x) (ey : h.1 26 b = nI y) (esa : h.1 47 a = nI sa) (esb : h.1 47 b = nI sb) (la : sa ≤ 1000) (lb : sb ≤ 1000) (hJ : 0 ≤ J x y) : ∃ h' : zHp, s_X3_addDouble (nI a) (nI b) h = some h' ∧ (∀ c, c ≠ 50 → h'.1 c = h.1 c) ∧ zCS h' (fun i k => J i k + if i = x ∧ k = y then 1 else 0) (fun i => D i + if i = x then 1 else 0) (fun i => A i + if i = x then (sa : Int) - (sb : Int) else 0) := by
  obtain ⟨c1, c2, c3, c4⟩ := cs
  obtain ⟨m, m1, m2, m3⟩ := c4 x hx
  have es : (nI sa - nI sb).toInt64 = lI ((sa : Int) - (sb : Int)) := by rw [lI_32, pk_sub_toInt (by omega) (by omega)]
  have r1 : (zwl h 48 (5 * x + x) (lI (D x + 1))).2 48 (5 * x + y) = lI (-(J x y)) := by rw [zwl_self, pk_uLn (by omega), c1 x y hx hy hxy]
  have r2 : ∀ H : zHp, ∀ p u q v, (zwl (zwl H 48 p u) 48 q v).2 49 = H.2 49 := fun H p u q v => by rw [zwl_ne 49 (by decide), zwl_ne 49 (by decide)]
  refine ⟨zwi (zwl (zwl (zwl h 48 (5 * x + x) (lI (D x + 1))) 48 (5 * x + y) (lI (-(J x y) - 1))) 49 x (lI (A x + ((sa : Int) - (sb : Int))))) 50 x (nI (m ||| 2 ^ y)), ?_, fun c hc => by rw [zwi_ne c hc]; rfl, ?_⟩
  · have zj : ∀ (H : zHp) (k p : Nat), p < 25 → zrj H k 25 (nI p) = some (H.2 k p) := fun H k p hp => zrj_ok hp (by decide)
    have zj5 : ∀ (H : zHp) (k p : Nat), p < 5 → zrj H k 5 (nI p) = some (H.2 k p) := fun H k p hp => zrj_ok hp (by decide)
    have zu : ∀ (H : zHp) (k p : Nat) (v : Int64), p < 25 → zuj H k 25 (nI p) v = some (zwl H k p v) := fun H k p v hp => zuj_ok hp (by decide)
    have zu5 : ∀ (H : zHp) (k p : Nat) (v : Int64), p < 5 → zuj H k 5 (nI p) v = some (zwl H k p v) := fun H k p v hp => zuj_ok hp (by decide)
    have e47 : ∀ (H : zHp) (c p : Nat) (v : Int64), (zwl H c p v).1 = H.1 := fun _ _ _ _ => rfl
    unfold s_X3_addDouble s_X5_inspectorOf
    rw [zriA ha (by decide), ex]
    simp only [Option.bind_some]
    rw [zriA hb (by decide), ey]
    simp only [Option.bind_some]
    rw [zix5.1, zix5.1, zj _ _ _ (by omega)]
    simp only [Option.bind_some]
    rw [c2 x hx, ← lI_1, lI_add, zu _ _ _ _ (by omega)]
    simp only [Option.bind_some]
    rw [zj _ _ _ (by omega)]
    simp only [Option.bind_some]
    rw [r1, lI_sub, zu _ _ _ _ (by omega)]
    simp only [Option.bind_some]
    rw [zj5 _ _ _ hx]
    simp only [Option.bind_some]
    rw [r2, c3 x hx, zriA ha (by decide), zriA hb (by decide)]
    simp only [Option.bind_some, e47, esa, esb]
    rw [es, lI_add, zu5 _ _ _ _ hx]
    simp only [Option.bind_some]
    rw [zriA hx (by decide)]
    simp only [Option.bind_some, e47, m2]
    rw [zbor1 m m1 y hy, zuiA hx (by decide)]
    rfl
  · have e48 : ∀ H : zHp, ∀ p v, (zwl H 49 p v).2 48 = H.2 48 := fun H p v => zwl_ne 48 (by decide)
    have q48 : (zwi (zwl (zwl (zwl h 48 (5 * x + x) (lI (D x + 1))) 48 (5 * x + y) (lI (-(J x y) - 1))) 49 x (lI (A x + ((sa : Int) - (sb : Int))))) 50 x (nI (m ||| 2 ^ y))).2 48 = vp_updL (vp_updL (h.2 48) (5 * x + x) (lI (D x + 1))) (5 * x + y) (lI (-(J x y) - 1)) := by
      show (zwl (zwl (zwl h 48 (5 * x + x) (lI (D x + 1))) 48 (5 * x + y) (lI (-(J x y) - 1))) 49 x (lI (A x + ((sa : Int) - (sb : Int))))).2 48 = _
      rw [e48, zwl_self, zwl_self]
    have q49 : (zwi (zwl (zwl (zwl h 48 (5 * x + x) (lI (D x + 1))) 48 (5 * x + y) (lI (-(J x y) - 1))) 49 x (lI (A x + ((sa : Int) - (sb : Int))))) 50 x (nI (m ||| 2 ^ y))).2 49 = vp_updL (h.2 49) x (lI (A x + ((sa : Int) - (sb : Int)))) := by
      show (zwl (zwl (zwl h 48 (5 * x + x) (lI (D x + 1))) 48 (5 * x + y) (lI (-(J x y) - 1))) 49 x (lI (A x + ((sa : Int) - (sb : Int))))).2 49 = _
      rw [zwl_self, r2]
    refine ⟨fun i k hi hk hik => ?_, fun i hi => ?_, fun i hi => ?_, fun i hi => ?_⟩
    · rw [q48]
      by_cases e : i = x ∧ k = y
      · obtain ⟨rfl, rfl⟩ := e
        rw [pk_uLs]
        simp only [and_self, reduceIte]
        congr 1
        omega
      · rw [pk_uLn (by omega), pk_uLn (by omega), c1 i k hi hk hik]
        simp only [e, reduceIte, Int.add_zero]
    · rw [q48, pk_uLn (by omega)]
      by_cases e : i = x
      · subst e; rw [pk_uLs]; simp only [reduceIte]
      · rw [pk_uLn (by omega), c2 i hi]; simp only [e, reduceIte, Int.add_zero]
    · rw [q49]
      by_cases e : i = x
      · subst e; rw [pk_uLs]; simp only [reduceIte]
      · rw [pk_uLn e, c3 i hi]; simp only [e, reduceIte, Int.add_zero]
    · rw [zwi_self]
      by_cases e : i = x
      · subst e
        refine ⟨m ||| 2 ^ y, zbor1lt m m1 y hy, pk_us, fun k hk => ?_⟩
        rw [Nat.testBit_or, Nat.testBit_two_pow, m3 k hk]
        by_cases e2 : y = k
        · subst e2
          simp only [decide_true, Bool.or_true, and_self, reduceIte]
          exact (decide_eq_true (by omega)).symm
        · rw [decide_eq_false e2, Bool.or_false]
          simp only [show ¬ (k = y) from fun z => e2 z.symm, and_false, reduceIte, Int.add_zero]
      · obtain ⟨m', n1, n2, n3⟩ := c4 i hi
        refine ⟨m', n1, by rw [pk_un e]; exact n2, fun k hk => ?_⟩
        simp only [e, false_and, reduceIte, Int.add_zero]
        exact n3 k hk
theorem zCS_congr {h : zHp} {J J' : Nat → Nat → Int} {D D' A A' : Nat → Int} (cs : zCS h J D A) (hJ : ∀ i k, i < 5 → k < 5 → J i k = J' i k) (hD : ∀ i, i < 5 → D i = D' i) (hA : ∀ i, i < 5 → A i = A' i) : zCS h J' D' A' := by
  obtain ⟨c1, c2, c3, c4⟩ := cs
  refine ⟨fun i k hi hk hik => by rw [c1 i k hi hk hik, hJ i k hi hk], fun i hi => by rw [c2 i hi, hD i hi], fun i hi => by rw [c3 i hi, hA i hi], fun i hi => ?_⟩
  obtain ⟨m, m1, m2, m3⟩ := c4 i hi
  exact ⟨m, m1, m2, fun k hk => by rw [m3 k hk, hJ i k hi hk]⟩
theorem zin_ok {h : zHp} {n k t a : Nat} (hl : zIl h n k t) (ha : a < n) : zin h a < 5 ∧ h.1 26 a = nI (zin h a) := by
  obtain ⟨-, ⟨x, x1, x2⟩, -⟩ := hl.2.2.1 a ha
  unfold zin
  rw [x2, nI_clamp (by omega)]
  exact ⟨x1, rfl⟩
theorem zd_in {h : zHp} {n k t a b : Nat} (hl : zIl h n k t) (ha : a < n) (hb : b < n) (e : zd h a b = 1) : zin h a ≠ zin h b := by
  unfold zd at e
  split at e
  · next c =>
    intro z
    apply c.2.2.1
    rw [(zin_ok hl ha).2, (zin_ok hl hb).2, z]
  · cases e
theorem e_learn1 {h : zHp} {t nc nk nl nt np : Nat} (hN : zIW h t nc nk nl nt np) (k59 : Int32 → zHp → Option zHp) {n : Nat} (hn : n < nl) : ∀ m j f (h1 : zHp), j + m = nl → m < f → n < j → zSame h h1 → (∀ l, l < nl → h1.1 47 l = nI (zscN h nc l)) → zCS h1 (fun i k => zP2 (zfJ h i k) nl n + zrow (zfJ h i k n) (n + 1) j) (fun i => zP2 (zfD h i) nl n + zrow (zfD h i n) (n + 1) j) (fun i => zP2 (zfA h nc i) nl n + zrow (zfA h nc i n) (n + 1) j) → ∃ h2 : zHp, s_X3_learn_L74 k59 f (nI n) (nI j) h1 = k59 (nI (n + 1)) h2 ∧ zSame h h2 ∧ (∀ l, l < nl → h2.1 47 l = nI (zscN h nc l)) ∧ zCS h2 (fun i k => zP2 (zfJ h i k) nl (n + 1)) (fun i => zP2 (zfD h i) nl (n + 1)) (fun i => zP2 (zfA h nc i) nl (n + 1))
  | 0, j, f + 1, h1, hm, hf, hj, hs, h47, cs => by
    obtain rfl : j = nl := by omega
    have hl := hN.2.2.2.2.2.1
    have hnl := hl.1.2.2
    refine ⟨h1, ?_, hs, h47, cs⟩
    simp only [s_X3_learn_L74, s_X5_size, hs.1 24 (by decide), hl.1.1, Option.bind_some, nI_le (Nat.le_refl j) (show j < 2 ^ 31 by omega), reduceIte, nI_1]
  | m + 1, j, f + 1, h1, hm, hf, hj, hs, h47, cs => by
    have hl := hN.2.2.2.2.2.1
    have hnl := hl.1.2.2
    have hl1 := (zIW_same hs hN).2.2.2.2.2.1
    have hd := e_double hl1 hN.1.2.2 hn (show j < nl by omega)
    have e25 := hs.1 25 (by decide)
    have e26 := hs.1 26 (by decide)
    have e27 := hs.1 27 (by decide)
    have e29 := hs.1 29 (by decide)
    rw [e25, e26, e27, e29] at hd
    obtain ⟨x1, x2⟩ := zin_ok hl hn
    obtain ⟨y1, y2⟩ := zin_ok hl (show j < nl by omega)
    by_cases c : h.1 25 n = h.1 25 j ∧ h.1 27 n = h.1 27 j ∧ ¬ h.1 26 n = h.1 26 j ∧ h.1 29 n = 1501 ∧ h.1 29 j = 1501
    · have hz : zd h n j = 1 := if_pos c
      have hxy := zd_in hl hn (show j < nl by omega) hz
      rw [if_pos c] at hd
      have sn : zscN h nc n ≤ 1000 := zScore_le hN.2.1
      have sj : zscN h nc j ≤ 1000 := zScore_le hN.2.1
      obtain ⟨h2, q1, q2, q3⟩ := e_add1 cs (a := n) (b := j) (by omega) (by omega) x1 y1 hxy (by rw [e26]; exact x2) (by rw [e26]; exact y2) (h47 n hn) (h47 j (by omega)) sn sj (by
        have a := zP2_nn (zfJ_nn h (zin h n) (zin h j)) nl n
        have b := zrow_nn (zfJ_nn h (zin h n) (zin h j) n) (n + 1) j
        omega)
      obtain ⟨h3, r1, r2, r3⟩ := e_add1 q3 (a := j) (b := n) (by omega) (by omega) y1 x1 (fun z => hxy z.symm) (by rw [q2 26 (by decide), e26]; exact y2) (by rw [q2 26 (by decide), e26]; exact x2) (by rw [q2 47 (by decide)]; exact h47 j (by omega)) (by rw [q2 47 (by decide)]; exact h47 n hn) sj sn (by
        have a := zP2_nn (zfJ_nn h (zin h j) (zin h n)) nl n
        have b := zrow_nn (zfJ_nn h (zin h j) (zin h n) n) (n + 1) j
        split <;> omega)
      have s3 : zSame h h3 := hs.tr (zSame2 (p := 50) (q := 50) (by decide) (by decide) (by decide) (by decide) (fun k k1 _ => by rw [r2 k k1, q2 k k1]))
      obtain ⟨h4, t1, t2, t3, t4⟩ := e_learn1 hN k59 hn m (j + 1) f h3 (by omega) (by omega) (by omega) s3 (fun l hl2 => by rw [r2 47 (by decide), q2 47 (by decide)]; exact h47 l hl2) (zCS_congr r3 (fun i k hi hk => by
          simp only [zrow, show n + 1 ≤ j from hj, reduceIte, zfJ, hz, Int.one_mul]
          rw [Int.add_assoc, Int.add_assoc]
          simp only [eq_comm (a := i), eq_comm (a := k)]
          simp only [and_comm (a := zin h j = i)]) (fun i hi => by
          simp only [zrow, show n + 1 ≤ j from hj, reduceIte, zfD, hz, Int.one_mul]
          rw [Int.add_assoc, Int.add_assoc]
          simp only [eq_comm (a := i)]) (fun i hi => by
          simp only [zrow, show n + 1 ≤ j from hj, reduceIte, zfA, hz, Int.one_mul]
          rw [Int.add_assoc, Int.add_assoc]
          simp only [eq_comm (a := i)]))
      refine ⟨h4, ?_, t2, t3, t4⟩
      simp only [s_X3_learn_L74, s_X3_learn_L106, s_X5_size, hs.1 24 (by decide), hl.1.1, Option.bind_some, nI_ge (show j < nl by omega) (show nl < 2 ^ 31 by omega), reduceIte, hd, z10, q1, r1, nI_1]
      exact t1
    · have hz : zd h n j = 0 := if_neg c
      rw [if_neg c] at hd
      obtain ⟨h4, t1, t2, t3, t4⟩ := e_learn1 hN k59 hn m (j + 1) f h1 (by omega) (by omega) (by omega) hs h47 (zCS_congr cs (fun i k hi hk => by
          simp only [zrow, show n + 1 ≤ j from hj, reduceIte, zfJ, hz, Int.zero_mul, Int.add_zero]) (fun i hi => by
          simp only [zrow, show n + 1 ≤ j from hj, reduceIte, zfD, hz, Int.zero_mul, Int.add_zero]) (fun i hi => by
          simp only [zrow, show n + 1 ≤ j from hj, reduceIte, zfA, hz, Int.zero_mul, Int.add_zero]))
      refine ⟨h4, ?_, t2, t3, t4⟩
      simp only [s_X3_learn_L74, s_X3_learn_L106, s_X5_size, hs.1 24 (by decide), hl.1.1, Option.bind_some, nI_ge (show j < nl by omega) (show nl < 2 ^ 31 by omega), reduceIte, hd, nI_1]
      exact t1
theorem e_learn2 {h : zHp} {t nc nk nl nt np : Nat} (hN : zIW h t nc nk nl nt np) : ∀ m n f (h1 : zHp), n + m = nl → m < f → zSame h h1 → (∀ l, l < nl → h1.1 47 l = nI (zscN h nc l)) → zCS h1 (fun i k => zP2 (zfJ h i k) nl n) (fun i => zP2 (zfD h i) nl n) (fun i => zP2 (zfA h nc i) nl n) → ∃ h2 : zHp, s_X3_learn_L59 f (nI n) h1 = ((s_X3_spreadJoins h2).bind fun q3 => s_X3_learn_L124 zFU (0 : Int32) q3) ∧ zSame h h2 ∧ zCS h2 (zJm h nl) (zDm h nl) (zAm h nc nl)
  | 0, n, f + 1, h1, hm, hf, hs, h47, cs => by
    obtain rfl : n = nl := by omega
    have hl := hN.2.2.2.2.2.1
    have hnl := hl.1.2.2
    refine ⟨h1, ?_, hs, zCS_congr cs (fun i k _ _ => zP12 (zfJ h i k) (zfJ_symm h i k) n) (fun i _ => zP12 (zfD h i) (zfD_symm h i) n) (fun i _ => zP12 (zfA h nc i) (zfA_symm h nc i) n)⟩
    simp only [s_X3_learn_L59, s_X5_size, hs.1 24 (by decide), hl.1.1, Option.bind_some, nI_le (Nat.le_refl n) (show n < 2 ^ 31 by omega), reduceIte]
  | m + 1, n, f + 1, h1, hm, hf, hs, h47, cs => by
    have hl := hN.2.2.2.2.2.1
    have hnl := hl.1.2.2
    obtain ⟨h2, q1, q2, q3, q4⟩ := e_learn1 hN (s_X3_learn_L59 f) (show n < nl by omega) (nl - (n + 1)) (n + 1) zFU h1 (by omega) (zFU_gt (by omega)) (by omega) hs h47 (zCS_congr cs (fun i k _ _ => by
        simp only [zrow_none _ (Nat.le_refl (n + 1)), Int.add_zero]) (fun i _ => by simp only [zrow_none _ (Nat.le_refl (n + 1)), Int.add_zero]) (fun i _ => by simp only [zrow_none _ (Nat.le_refl (n + 1)), Int.add_zero]))
    obtain ⟨h3, r1, r2, r3⟩ := e_learn2 hN m (n + 1) f h2 (by omega) (by omega) q2 q3 q4
    refine ⟨h3, ?_, r2, r3⟩
    simp only [s_X3_learn_L59, s_X5_size, hs.1 24 (by decide), hl.1.1, Option.bind_some, nI_ge (show n < nl by omega) (show nl < 2 ^ 31 by omega), reduceIte, nI_1]
    rw [q1, r1]
theorem e_own {h : zHp} {t nc nk nl nt np l : Nat} (hN : zIW h t nc nk nl nt np) (hl : l < nl) : ∃ F, s_X5_ownScore (nI l) h = some (nI (zscN h nc l), zgk h 31 F) := by
  have hh := hN.2.2.2.2.2.1
  have := hh.1.2.2
  obtain ⟨F, q⟩ := e_score (l := l) (d := h.1 27 l) hN.2.1 hh.2.2.2.2.1 (by omega)
  refine ⟨F, ?_⟩
  simp only [s_X5_ownScore, zriA (show l < 80 by omega) (by decide), Option.bind_some, q]
  rfl
theorem zscN_same {h h' : zHp} (hs : zSame h h') (nc l : Nat) : zscN h' nc l = zscN h nc l := by
  unfold zscN
  rw [zScore_same hs, hs.1 27 (by decide)]
theorem e_learn3 {h : zHp} {t nc nk nl nt np : Nat} (hN : zIW h t nc nk nl nt np) : ∀ m l f (h1 : zHp), l + m = nl → m < f → zSame h h1 → (∀ i, i < l → h1.1 47 i = nI (zscN h nc i)) → ∃ h2 : zHp, s_X3_learn_L26 f (nI l) h1 = s_X3_learn_L59 zFU 0 h2 ∧ zSame h h2 ∧ (∀ i, i < nl → h2.1 47 i = nI (zscN h nc i)) ∧ h2.2 = h1.2 ∧ h2.1 50 = h1.1 50
  | 0, l, f + 1, h1, hm, hf, hs, h47 => by
    obtain rfl : l = nl := by omega
    have hl := hN.2.2.2.2.2.1
    have hnl := hl.1.2.2
    refine ⟨h1, ?_, hs, h47, rfl, rfl⟩
    simp only [s_X3_learn_L26, s_X5_size, hs.1 24 (by decide), hl.1.1, Option.bind_some, nI_le (Nat.le_refl l) (show l < 2 ^ 31 by omega), reduceIte]
  | m + 1, l, f + 1, h1, hm, hf, hs, h47 => by
    have hl := hN.2.2.2.2.2.1
    have hnl := hl.1.2.2
    obtain ⟨F, q⟩ := e_own (zIW_same hs hN) (show l < nl by omega)
    rw [zscN_same hs] at q
    have s2 : zSame h (zwi (zgk h1 31 F) 47 l (nI (zscN h nc l))) := (hs.tr (zgk_same h1 F (by decide) (by decide))).wi 47 l _ (by decide) (Or.inl (by decide))
    obtain ⟨h3, r1, r2, r3, r4, r5⟩ := e_learn3 hN m (l + 1) f (zwi (zgk h1 31 F) 47 l (nI (zscN h nc l))) (by omega) (by omega) s2 (fun i hi => by
      rw [zwi_self, zgk_ne h1 F (by decide)]
      by_cases e : i = l
      · subst e; rw [pk_us]
      · rw [pk_un e]; exact h47 i (by omega))
    refine ⟨h3, ?_, r2, r3, r4, by rw [r5, zwi_ne 50 (by decide), zgk_ne h1 F (by decide)]⟩
    simp only [s_X3_learn_L26, s_X5_size, hs.1 24 (by decide), hl.1.1, Option.bind_some, nI_ge (show l < nl by omega) (show nl < 2 ^ 31 by omega), reduceIte, q, zuiA (show l < 80 by omega) (by decide), nI_1]
    exact r1
/-- up to the spreading of the joins -/
theorem e_learnA {h : zHp} {t nc nk nl nt np : Nat} (hN : zIW h t nc nk nl nt np) : ∃ h2 : zHp, s_X3_learn h = ((s_X3_spreadJoins h2).bind fun q3 => s_X3_learn_L124 zFU (0 : Int32) q3) ∧ zSame h h2 ∧ zCS h2 (zJm h nl) (zDm h nl) (zAm h nc nl) := by
  have hl := hN.2.2.2.2.2.1
  have hnl := hl.1.2.2
  have s0 : zSame h (zfl (zflL (zflL h 48 0 25 0) 49 0 5 0) 50 0 5 0) := by
    obtain ⟨F, e1, e2⟩ := zfl_gk (zflL (zflL h 48 0 25 0) 49 0 5 0) 50 5 0
    rw [e1]
    exact zSame.tr (b := zflL (zflL h 48 0 25 0) 49 0 5 0) (zSame.rf h) (zgk_same _ F (by decide) (by decide))
  obtain ⟨h2, q1, q2, q3, q4, q5⟩ := e_learn3 hN nl 0 zFU _ (by omega) (zFU_gt (by omega)) s0 (fun i hi => by omega)
  have cs0 : zCS h2 (fun i k => zP2 (zfJ h i k) nl 0) (fun i => zP2 (zfD h i) nl 0) (fun i => zP2 (zfA h nc i) nl 0) := by
    have f48 : ∀ p, p < 25 → h2.2 48 p = 0 := fun p hp => by
      rw [q4]
      show (zflL (zflL h 48 0 25 0) 49 0 5 0).2 48 p = 0
      simp [zflL, va_up, hp]
    have f49 : ∀ p, p < 5 → h2.2 49 p = 0 := fun p hp => by
      rw [q4]
      show (zflL (zflL h 48 0 25 0) 49 0 5 0).2 49 p = 0
      simp [zflL, va_up, hp]
    have f50 : ∀ p, p < 5 → h2.1 50 p = 0 := fun p hp => by
      rw [q5]
      simp [zfl, va_up, hp]
    refine ⟨fun i k hi hk _ => by rw [f48 _ (by omega)]; exact lI_0.symm, fun i hi => by rw [f48 _ (by omega)]; exact lI_0.symm, fun i hi => by rw [f49 _ hi]; exact lI_0.symm, fun i hi => ⟨0, by decide, by rw [f50 i hi, nI_0], fun k hk => ?_⟩⟩
    rw [Nat.zero_testBit]
    rfl
  obtain ⟨h3, r1, r2, r3⟩ := e_learn2 hN nl 0 zFU h2 (by omega) (zFU_gt (by omega)) q2 q3 cs0
  refine ⟨h3, ?_, r2, r3⟩
  rw [nI_0] at q1 r1
  unfold s_X3_learn
  rw [f_J7_fill_d0a16_48, zbs rfl, f_J7_fill_d0a16_49, zbs rfl, f_J7_fill_53178_50, zbs rfl, q1, r1]

/-! ===== the equations of the habits, as the reference makes them ===== -/
def zMS (h : zHp) (J : Nat → Nat → Int) (A : Nat → Int) : Prop := (∀ i k, i < 5 → k < 5 → h.2 100 (5 * i + k) = lI (J i k)) ∧ (∀ i, i < 5 → h.2 101 i = lI (A i))
theorem zMS_congr {h : zHp} {J J' : Nat → Nat → Int} {A A' : Nat → Int} (cs : zMS h J A) (hJ : ∀ i k, i < 5 → k < 5 → J i k = J' i k) (hA : ∀ i, i < 5 → A i = A' i) : zMS h J' A' :=
  ⟨fun i k hi hk => by rw [cs.1 i k hi hk, hJ i k hi hk], fun i hi => by rw [cs.2 i hi, hA i hi]⟩
theorem zMS_add {H : zHp} {J : Nat → Nat → Int} {A : Nat → Int} {x y : Nat} {v : Int} (cs : zMS H J A) (hx : x < 5) (hy : y < 5) (hxy : x ≠ y) : zMS (zwl (zwl (zwl (zwl H 100 (5 * x + y) (H.2 100 (5 * x + y) + 1)) 100 (5 * y + x) (H.2 100 (5 * y + x) + 1)) 101 x (H.2 101 x + lI v)) 101 y (H.2 101 y - lI v)) (fun i k => J i k + ((if x = i ∧ y = k then 1 else 0) + (if x = k ∧ y = i then 1 else 0))) (fun i => A i + ((if x = i then v else 0) + (if y = i then -v else 0))) := by
  obtain ⟨c1, c2⟩ := cs
  refine ⟨fun i k hi hk => ?_, fun i hi => ?_⟩
  · rw [zwl_ne 100 (by decide), zwl_ne 100 (by decide), zwl_self, zwl_self, c1 x y hx hy, c1 y x hy hx, ← lI_1, lI_add, lI_add]
    by_cases e1 : x = i ∧ y = k
    · obtain ⟨rfl, rfl⟩ := e1
      rw [pk_uLn (by omega), pk_uLs]
      simp only [and_self, reduceIte, show ¬ (x = y ∧ y = x) from fun z => hxy z.1, Int.add_zero]
    · by_cases e2 : x = k ∧ y = i
      · obtain ⟨rfl, rfl⟩ := e2
        rw [pk_uLs]
        simp only [and_self, reduceIte, show ¬ (x = y ∧ y = x) from fun z => hxy z.1, Int.zero_add]
      · rw [pk_uLn (by omega), pk_uLn (by omega), c1 i k hi hk]
        simp only [e1, e2, reduceIte, Int.add_zero]
  · rw [zwl_self, zwl_self, zwl_ne 101 (by decide), zwl_ne 101 (by decide), c2 x hx, c2 y hy, lI_add, lI_sub]
    by_cases e1 : x = i
    · subst e1
      rw [pk_uLn hxy, pk_uLs]
      simp only [reduceIte, show ¬ y = x from fun z => hxy z.symm, Int.add_zero]
    · by_cases e2 : y = i
      · subst e2
        rw [pk_uLs]
        simp only [reduceIte, e1, Int.zero_add]
        rfl
      · rw [pk_uLn (fun z => e2 z.symm), pk_uLn (fun z => e1 z.symm), c2 i hi]
        simp only [e1, e2, reduceIte, Int.add_zero]
theorem m_own {h : zHp} {t nc nk nl nt np l : Nat} (hN : zIW h t nc nk nl nt np) (hl : l < nl) : ∃ F, s_X10_scoreOf (nI l) (h.1 27 l) h = some (nI (zscN h nc l), zgk h 89 F) := by
  have hh := hN.2.2.2.2.2.1
  have := hh.1.2.2
  exact m_score (l := l) (d := h.1 27 l) hN.2.1 hh.2.1.2.2.2.2 hh.2.2.2.2.1 (by omega)
theorem m_fd1 {h : zHp} {t nc nk nl nt np : Nat} (hN : zIW h t nc nk nl nt np) (k50 : Int32 → zHp → Option zHp) {a : Nat} (ha : a < nl) : ∀ m b f (h1 : zHp), b + m = a → m < f → zSame h h1 → (∀ i, i < 5 → h1.1 102 i = nI i) → zMS h1 (fun i k => zP1 (zfJ h i k) a + zrow (zfJ h i k a) 0 b) (fun i => zP1 (zfA h nc i) a + zrow (zfA h nc i a) 0 b) → ∃ h2 : zHp, s_X10_findDoubles_L60 k50 f (nI a) (nI b) h1 = k50 (nI (a + 1)) h2 ∧ zSame h h2 ∧ (∀ i, i < 5 → h2.1 102 i = nI i) ∧ zMS h2 (fun i k => zP1 (zfJ h i k) (a + 1)) (fun i => zP1 (zfA h nc i) (a + 1))
  | 0, b, f + 1, h1, hm, hf, hs, hx, cs => by
    obtain rfl : b = a := by omega
    have hnl := hN.2.2.2.2.2.1.1.2.2
    refine ⟨h1, ?_, hs, hx, cs⟩
    simp only [s_X10_findDoubles_L60, nI_le (Nat.le_refl b) (show b < 2 ^ 31 by omega), reduceIte, nI_1]
  | m + 1, b, f + 1, h1, hm, hf, hs, hx, cs => by
    have hl := hN.2.2.2.2.2.1
    have hnl := hl.1.2.2
    have hN1 := zIW_same hs hN
    have hb : b < nl := by omega
    have hd := m_doubleW hN1 ha hb
    have e25 := hs.1 25 (by decide)
    have e26 := hs.1 26 (by decide)
    have e27 := hs.1 27 (by decide)
    have e29 := hs.1 29 (by decide)
    rw [e25, e26, e27, e29] at hd
    obtain ⟨x1, x2⟩ := zin_ok hl ha
    obtain ⟨y1, y2⟩ := zin_ok hl hb
    by_cases c : h.1 25 a = h.1 25 b ∧ h.1 27 a = h.1 27 b ∧ ¬ h.1 26 a = h.1 26 b ∧ h.1 29 a = 1501 ∧ h.1 29 b = 1501
    · have hz : zd h a b = 1 := if_pos c
      have hxy := zd_in hl ha hb hz
      rw [if_pos c] at hd
      have sa : zscN h nc a ≤ 1000 := zScore_le hN.2.1
      have sb : zscN h nc b ≤ 1000 := zScore_le hN.2.1
      obtain ⟨F, q1⟩ := m_own hN1 ha
      have s2 : zSame h (zgk h1 89 F) := hs.tr (zgk_same h1 F (by decide) (by decide))
      obtain ⟨G, q2⟩ := m_own (zIW_same s2 hN) hb
      rw [zscN_same hs] at q1
      rw [zscN_same s2] at q2
      have s3 : zSame h (zgk (zgk h1 89 F) 89 G) := s2.tr (zgk_same _ G (by decide) (by decide))
      have hr83 : ∀ H : zHp, zSame h H → H.1 83 = h.1 26 ∧ H.1 84 = h.1 27 := fun H hH => by
        rw [hH.1 83 (by decide), hH.1 84 (by decide)]
        exact ⟨hl.2.1.2.1.symm, hl.2.1.2.2.1.symm⟩
      obtain ⟨r1, r2⟩ := hr83 h1 hs
      obtain ⟨r3, r4⟩ := hr83 _ s2
      rw [s2.1 27 (by decide)] at q2
      rw [e27] at q1
      have es : (nI (zscN h nc a) - nI (zscN h nc b)).toInt64 = lI ((zscN h nc a : Int) - (zscN h nc b : Int)) := by rw [lI_32, pk_sub_toInt (by omega) (by omega)]
      have x102 : ∀ i, i < 5 → (zgk (zgk h1 89 F) 89 G).1 102 i = nI i := fun i hi => by
        rw [zgk_ne _ G (by decide), zgk_ne h1 F (by decide)]; exact hx i hi
      have cs2 : zMS (zgk (zgk h1 89 F) 89 G) _ _ := cs
      generalize zgk (zgk h1 89 F) 89 G = H at *
      have zj : ∀ (H : zHp) (k p : Nat), p < 25 → zrj H k 25 (nI p) = some (H.2 k p) := fun H k p hp => zrj_ok hp (by decide)
      have zj5 : ∀ (H : zHp) (k p : Nat), p < 5 → zrj H k 5 (nI p) = some (H.2 k p) := fun H k p hp => zrj_ok hp (by decide)
      have zu : ∀ (H : zHp) (k p : Nat) (v : Int64), p < 25 → zuj H k 25 (nI p) v = some (zwl H k p v) := fun H k p v hp => zuj_ok hp (by decide)
      have zu5 : ∀ (H : zHp) (k p : Nat) (v : Int64), p < 5 → zuj H k 5 (nI p) v = some (zwl H k p v) := fun H k p v hp => zuj_ok hp (by decide)
      have hh1 : ∀ u, (zwl H 100 (5 * zin h a + zin h b) u).2 100 (5 * zin h b + zin h a) = H.2 100 (5 * zin h b + zin h a) := fun u => by rw [zwl_self, pk_uLn (by omega)]
      have hh2 : ∀ u v, (zwl (zwl H 100 (5 * zin h a + zin h b) u) 100 (5 * zin h b + zin h a) v).2 101 = H.2 101 := fun u v => by rw [zwl_ne 101 (by decide), zwl_ne 101 (by decide)]
      have hh3 : ∀ u v w, (zwl (zwl (zwl H 100 (5 * zin h a + zin h b) u) 100 (5 * zin h b + zin h a) v) 101 (zin h a) w).2 101 (zin h b) = H.2 101 (zin h b) := fun u v w => by rw [zwl_self, pk_uLn (fun z => hxy z.symm), hh2]
      have cs3 := zMS_add (v := (zscN h nc a : Int) - (zscN h nc b : Int)) cs2 x1 y1 hxy
      obtain ⟨h4, t1, t2, t3, t4⟩ := m_fd1 hN k50 ha m (b + 1) f (zwl (zwl (zwl (zwl H 100 (5 * zin h a + zin h b) (H.2 100 (5 * zin h a + zin h b) + 1)) 100 (5 * zin h b + zin h a) (H.2 100 (5 * zin h b + zin h a) + 1)) 101 (zin h a) (H.2 101 (zin h a) + lI ((zscN h nc a : Int) - (zscN h nc b : Int)))) 101 (zin h b) (H.2 101 (zin h b) - lI ((zscN h nc a : Int) - (zscN h nc b : Int)))) (by omega) (by omega) s3 x102 (zMS_congr cs3 (fun i k hi hk => by
          simp only [zrow, show 0 ≤ b from Nat.zero_le b, reduceIte, zfJ, hz, Int.one_mul]
          rw [Int.add_assoc]) (fun i hi => by
          simp only [zrow, show 0 ≤ b from Nat.zero_le b, reduceIte, zfA, hz, Int.one_mul, Int.neg_sub]
          rw [Int.add_assoc]))
      refine ⟨h4, ?_, t2, t3, t4⟩
      rw [s_X10_findDoubles_L60, if_neg (nI_ge (show b < a by omega) (show a < 2 ^ 31 by omega)), hd, zbs rfl, if_neg z10]
      rw [zbs (zriA (show a < 80 by omega) (by decide) h1 83), zbs (zriA (show b < 80 by omega) (by decide) h1 83), zbs (zriA (show a < 80 by omega) (by decide) h1 84), r1, r2, x2, y2, zbs q1]
      rw [zbs (zriA (show b < 80 by omega) (by decide) _ 84), r4, zbs q2, zbs rfl, es, zix5.2, zbs rfl, zbs (zj _ _ _ (by omega)), zbs (zu _ _ _ _ (by omega)), zix5.2, zbs rfl, zbs (zj _ _ _ (by omega)), zbs (zu _ _ _ _ (by omega)), zbs (zj5 _ _ _ x1), zbs (zu5 _ _ _ _ x1), zbs (zj5 _ _ _ y1), zbs (zu5 _ _ _ _ y1), hh1, hh3, hh2]
      unfold s_X10_findDoubles_L168
      rw [nI_1]
      exact t1
    · have hz : zd h a b = 0 := if_neg c
      rw [if_neg c] at hd
      obtain ⟨h4, t1, t2, t3, t4⟩ := m_fd1 hN k50 ha m (b + 1) f h1 (by omega) (by omega) hs hx (zMS_congr cs (fun i k hi hk => by
          simp only [zrow, show 0 ≤ b from Nat.zero_le b, reduceIte, zfJ, hz, Int.zero_mul, Int.add_zero]) (fun i hi => by
          simp only [zrow, show 0 ≤ b from Nat.zero_le b, reduceIte, zfA, hz, Int.zero_mul, Int.add_zero]))
      refine ⟨h4, ?_, t2, t3, t4⟩
      simp only [s_X10_findDoubles_L60, s_X10_findDoubles_L168, nI_ge (show b < a by omega) (show a < 2 ^ 31 by omega), reduceIte, hd, Option.bind_some, nI_1]
      exact t1
theorem m_fd2 {h : zHp} {t nc nk nl nt np : Nat} (hN : zIW h t nc nk nl nt np) : ∀ m a f (h1 : zHp), a + m = nl → m < f → zSame h h1 → (∀ i, i < 5 → h1.1 102 i = nI i) → zMS h1 (fun i k => zP1 (zfJ h i k) a) (fun i => zP1 (zfA h nc i) a) → ∃ h2 : zHp, s_X10_findDoubles_L50 f (nI a) h1 = s_X10_findDoubles_L182 zFU 0 h2 ∧ zSame h h2 ∧ (∀ i, i < 5 → h2.1 102 i = nI i) ∧ zMS h2 (zJm h nl) (zAm h nc nl)
  | 0, a, f + 1, h1, hm, hf, hs, hx, cs => by
    obtain rfl : a = nl := by omega
    have hl := hN.2.2.2.2.2.1
    have hnl := hl.1.2.2
    refine ⟨h1, ?_, hs, hx, cs⟩
    simp only [s_X10_findDoubles_L50, hs.2 17 (by decide) (by decide), hl.1.2.1, nI_le (Nat.le_refl a) (show a < 2 ^ 31 by omega), reduceIte]
  | m + 1, a, f + 1, h1, hm, hf, hs, hx, cs => by
    have hl := hN.2.2.2.2.2.1
    have hnl := hl.1.2.2
    obtain ⟨h2, q1, q2, q3, q4⟩ := m_fd1 hN (s_X10_findDoubles_L50 f) (show a < nl by omega) a 0 zFU h1 (by omega) (zFU_gt (by omega)) hs hx (zMS_congr cs (fun i k _ _ => by simp only [zrow, Int.add_zero]) (fun i _ => by simp only [zrow, Int.add_zero]))
    obtain ⟨h3, r1, r2, r3, r4⟩ := m_fd2 hN m (a + 1) f h2 (by omega) (by omega) q2 q3 q4
    refine ⟨h3, ?_, r2, r3, r4⟩
    rw [nI_0] at q1
    simp only [s_X10_findDoubles_L50, hs.2 17 (by decide) (by decide), hl.1.2.1, nI_ge (show a < nl by omega) (show nl < 2 ^ 31 by omega), reduceIte]
    rw [q1, r1]
theorem m_fd3 : ∀ m j f (h1 : zHp), j + m = 5 → m < f → (∀ i, i < j → h1.1 102 i = nI i) → (∀ i, i < j → h1.2 101 i = 0) → ∃ h2 : zHp, s_X10_findDoubles_L23 f (nI j) h1 = s_X10_findDoubles_L50 zFU 0 h2 ∧ (∀ c, c ≠ 102 → h2.1 c = h1.1 c) ∧ (∀ i, i < 5 → h2.1 102 i = nI i) ∧ (∀ i, i < 5 → h2.2 101 i = 0) ∧ h2.2 100 = h1.2 100
  | 0, j, f + 1, h1, hm, hf, hx, hy => by
    obtain rfl : j = 5 := by omega
    refine ⟨h1, ?_, fun _ _ => rfl, hx, hy, rfl⟩
    simp only [s_X10_findDoubles_L23, z55, reduceIte]
  | m + 1, j, f + 1, h1, hm, hf, hx, hy => by
    obtain ⟨h2, q1, q2, q3, q4, q5⟩ := m_fd3 m (j + 1) f (zwi (zwl h1 101 j 0) 102 j (nI j)) (by omega) (by omega) (fun i hi => by
      rw [zwi_self]
      by_cases e : i = j
      · subst e; rw [pk_us]
      · rw [pk_un e]; exact hx i (by omega)) (fun i hi => by
      show (zwl h1 101 j 0).2 101 i = 0
      rw [zwl_self]
      by_cases e : i = j
      · subst e; rw [pk_uLs]
      · rw [pk_uLn e]; exact hy i (by omega))
    refine ⟨h2, ?_, fun c hc => by rw [q2 c hc, zwi_ne c hc]; rfl, q3, q4, by rw [q5]; exact zwl_ne (h := h1) (k := 101) (i := j) (x := 0) 100 (by decide)⟩
    simp only [s_X10_findDoubles_L23, z5le (show j < 5 by omega), reduceIte, zuj_ok (show j < 5 by omega) (by decide), zuiA (show j < 5 by omega) (by decide), Option.bind_some, nI_1]
    exact q1
theorem m_fd4 : ∀ m j f (h1 : zHp), j + m = 25 → m < f → (∀ i, i < j → h1.2 100 i = 0) → ∃ h2 : zHp, s_X10_findDoubles_L2 f (nI j) h1 = s_X10_findDoubles_L23 zFU 0 h2 ∧ h2.1 = h1.1 ∧ (∀ i, i < 25 → h2.2 100 i = 0)
  | 0, j, f + 1, h1, hm, hf, hx => by
    obtain rfl : j = 25 := by omega
    refine ⟨h1, ?_, rfl, hx⟩
    simp only [s_X10_findDoubles_L2, show (25 : Int32) ≤ nI 25 from by decide, reduceIte]
  | m + 1, j, f + 1, h1, hm, hf, hx => by
    obtain ⟨h2, q1, q2, q3⟩ := m_fd4 m (j + 1) f (zwl h1 100 j 0) (by omega) (by omega) (fun i hi => by
      rw [zwl_self]
      by_cases e : i = j
      · subst e; rw [pk_uLs]
      · rw [pk_uLn e]; exact hx i (by omega))
    refine ⟨h2, ?_, q2, q3⟩
    have c25 : ¬ (25 : Int32) ≤ nI j := nI_ge (b := 25) (by omega) (by decide)
    simp only [s_X10_findDoubles_L2, c25, reduceIte, zuj_ok (show j < 25 by omega) (by decide), Option.bind_some, nI_1]
    exact q1
/-! bounds -/
def ztri : Nat → Nat
  | 0 => 0
  | n + 1 => ztri n + n
theorem ztri_mono : ∀ {n m : Nat}, n ≤ m → ztri n ≤ ztri m
  | n, 0, h => by obtain rfl : n = 0 := by omega
                  exact Nat.le_refl _
  | n, m + 1, h => by
    by_cases e : n = m + 1
    · subst e; exact Nat.le_refl _
    · have := ztri_mono (n := n) (m := m) (by omega)
      rw [ztri]
      omega
theorem zrow_bd {φ : Nat → Int} {c N : Nat} (h : ∀ b, b < N → (φ b).natAbs ≤ c) : ∀ n, n ≤ N → (zrow φ 0 n).natAbs ≤ c * n
  | 0, _ => by simp [zrow]
  | n + 1, hn => by
    have i1 := zrow_bd h n (by omega)
    have i2 := h n (by omega)
    rw [zrow, if_pos (Nat.zero_le n), Nat.mul_succ]
    omega
theorem zP1_bd {φ : Nat → Nat → Int} {c N : Nat} (h : ∀ a b, a < N → b < N → (φ a b).natAbs ≤ c) : ∀ n, n ≤ N → (zP1 φ n).natAbs ≤ c * ztri n
  | 0, _ => by simp [zP1]
  | n + 1, hn => by
    have i1 := zP1_bd h n (by omega)
    have i2 := zrow_bd (φ := φ n) (c := c) (N := N) (fun b hb => h n b (by omega) hb) n (by omega)
    rw [zP1, ztri, Nat.mul_add]
    omega
theorem ztri80 : ztri 80 = 3160 := by decide +kernel
theorem zJm_bd {h : zHp} {t nc nk nl nt np : Nat} (hN : zIW h t nc nk nl nt np) (i k : Nat) : (zJm h nl i k).natAbs ≤ 6320 := by
  have hl := hN.2.2.2.2.2.1
  have := zP1_bd (φ := zfJ h i k) (c := 2) (N := nl) (fun a b _ _ => by
    unfold zfJ
    rcases zd_01 h a b with e | e
    · rw [e, Int.zero_mul]; decide
    · rw [e, Int.one_mul]
      split <;> split <;> omega) nl (Nat.le_refl _)
  have h2 := ztri_mono hl.1.2.2
  rw [ztri80] at h2
  unfold zJm
  omega
theorem zDm_bd {h : zHp} {t nc nk nl nt np : Nat} (hN : zIW h t nc nk nl nt np) (i : Nat) : (zDm h nl i).natAbs ≤ 3160 := by
  have hl := hN.2.2.2.2.2.1
  have := zP1_bd (φ := zfD h i) (c := 1) (N := nl) (fun a b ha hb => by
    unfold zfD
    rcases zd_01 h a b with e | e
    · rw [e, Int.zero_mul]; decide
    · rw [e, Int.one_mul]
      have := zd_in hl ha hb e
      split <;> split <;> omega) nl (Nat.le_refl _)
  have h2 := ztri_mono hl.1.2.2
  rw [ztri80] at h2
  unfold zDm
  omega
theorem zAm_bd {h : zHp} {t nc nk nl nt np : Nat} (hN : zIW h t nc nk nl nt np) (i : Nat) : (zAm h nc nl i).natAbs ≤ 3160000 := by
  have hl := hN.2.2.2.2.2.1
  have := zP1_bd (φ := zfA h nc i) (c := 1000) (N := nl) (fun a b ha hb => by
    unfold zfA
    have sa : zscN h nc a ≤ 1000 := zScore_le hN.2.1
    have sb : zscN h nc b ≤ 1000 := zScore_le hN.2.1
    rcases zd_01 h a b with e | e
    · rw [e, Int.zero_mul]; decide
    · rw [e, Int.one_mul]
      have := zd_in hl ha hb e
      split <;> split <;> omega) nl (Nat.le_refl _)
  have h2 := ztri_mono hl.1.2.2
  rw [ztri80] at h2
  unfold zAm
  omega
theorem zP1_add (φ ψ : Nat → Nat → Int) : ∀ n, zP1 (fun a b => φ a b + ψ a b) n = zP1 φ n + zP1 ψ n
  | 0 => rfl
  | n + 1 => by
    have r : ∀ m, zrow (fun b => φ n b + ψ n b) 0 m = zrow (φ n) 0 m + zrow (ψ n) 0 m := fun m => by
      induction m with
      | zero => rfl
      | succ m ih =>
        rw [zrow, zrow, zrow, ih, if_pos (Nat.zero_le m), if_pos (Nat.zero_le m), if_pos (Nat.zero_le m)]
        omega
    rw [zP1, zP1, zP1, zP1_add φ ψ n, r n]
    omega
theorem zP1_congr {φ ψ : Nat → Nat → Int} {N : Nat} (h : ∀ a b, a < N → b < N → φ a b = ψ a b) : ∀ n, n ≤ N → zP1 φ n = zP1 ψ n
  | 0, _ => rfl
  | n + 1, hn => by
    have r : ∀ m, m ≤ N → zrow (φ n) 0 m = zrow (ψ n) 0 m := fun m => by
      induction m with
      | zero => intro _; rfl
      | succ m ih => intro hm; rw [zrow, zrow, ih (by omega), h n m (by omega) (by omega)]
    rw [zP1, zP1, zP1_congr h n (by omega), r n (by omega)]
/-- a row of the joins sums up to the doubles of its inspector -/
theorem zDm_sum {h : zHp} {t nc nk nl nt np : Nat} (hN : zIW h t nc nk nl nt np) {i : Nat} (hi : i < 5) : zJm h nl i 0 + zJm h nl i 1 + zJm h nl i 2 + zJm h nl i 3 + zJm h nl i 4 = zDm h nl i := by
  have hl := hN.2.2.2.2.2.1
  unfold zJm zDm
  rw [← zP1_add, ← zP1_add, ← zP1_add, ← zP1_add]
  refine zP1_congr (N := nl) (fun a b ha hb => ?_) nl (Nat.le_refl _)
  have xa := (zin_ok hl ha).1
  have xb := (zin_ok hl hb).1
  unfold zfJ zfD
  rcases zd_01 h a b with e | e
  · rw [e]; simp
  · rw [e]
    have hne := zd_in hl ha hb e
    generalize zin h a = x at *
    generalize zin h b = y at *
    simp only [Int.one_mul]
    match x, y, xa, xb with
    | 0, 0, _, _ => exact absurd rfl hne
    | 1, 1, _, _ => exact absurd rfl hne
    | 2, 2, _, _ => exact absurd rfl hne
    | 3, 3, _, _ => exact absurd rfl hne
    | 4, 4, _, _ => exact absurd rfl hne
    | 0, 1, _, _ | 0, 2, _, _ | 0, 3, _, _ | 0, 4, _, _ | 1, 0, _, _ | 1, 2, _, _ | 1, 3, _, _ | 1, 4, _, _ | 2, 0, _, _ | 2, 1, _, _ | 2, 3, _, _ | 2, 4, _, _ | 3, 0, _, _ | 3, 1, _, _ | 3, 2, _, _ | 3, 4, _, _ | 4, 0, _, _ | 4, 1, _, _ | 4, 2, _, _ | 4, 3, _, _ =>
      match i, hi with
      | 0, _ | 1, _ | 2, _ | 3, _ | 4, _ => simp
theorem zJm_nn (h : zHp) (n i k : Nat) : 0 ≤ zJm h n i k := zP1_nn (zfJ_nn h i k) n

/-! ===== rounds: the reference asks ===== -/
theorem zgr_ge (n c : Nat) : c ≤ zgr n c := zgr_mono c (Nat.zero_le n)
theorem zlc_pos {h : zHp} {t nc nk nl nt np k : Nat} (hN : zIN h t nc nk nl nt np) (hk : k < nk) : 0 < zlc h nc nl nt t k 7 ↔ zDue h nl k (zRisk h nc nl nt k (nI t)) (nI t) < t + 7 := by
  have r := (zRisk_rng hN hk).1
  unfold zlc zDc
  by_cases c : zDue h nl k (zRisk h nc nl nt k (nI t)) (nI t) < t + 7
  · rw [if_pos c]
    refine ⟨fun _ => c, fun _ => ?_⟩
    unfold zCost
    have a := zgr_ge ((t + 7 - zDue h nl k (zRisk h nc nl nt k (nI t)) (nI t)) / 30) (zRisk h nc nl nt k (nI t) * (t + 7 - zDue h nl k (zRisk h nc nl nt k (nI t)) (nI t)))
    have b := Nat.mul_le_mul r (show 1 ≤ t + 7 - zDue h nl k (zRisk h nc nl nt k (nI t)) (nI t) by omega)
    omega
  · rw [if_neg c]
    exact ⟨fun z => by omega, fun z => absurd z c⟩
theorem m_as1 {h : zHp} {t nc nk nl nt np : Nat} (hN : zIN h t nc nk nl nt np) (ht : t + 7 ≤ 1500) (k9 : Int32 → Int32 → zHp → Option zHp) {M : Nat} (hM : M < 2 ^ 20) (a2 : Int32) : ∀ m k f (h1 : zHp), k + m = nk → m < f → zbut 89 h h1 → ∃ h2 : zHp, s_X10_ask_L20 k9 f (nI M) a2 (zoi (zdb (fun j => zlc h nc nl nt t j 7) M k)) (nI k) h1 = k9 (nI (match zdb (fun j => zlc h nc nl nt t j 7) M nk with | none => M | some k => M ||| 2 ^ k)) (a2 + 1) h2 ∧ zbut 89 h h2
  | 0, k, f + 1, h1, hm, hf, hb => by
    obtain rfl : k = nk := by omega
    have hN1 := zIN_same (hb.same (by decide) (by decide)) hN
    obtain ⟨-, -, ⟨⟨k1, k2, k3⟩, -⟩, -⟩ := id hN1
    refine ⟨h1, ?_, hb⟩
    rw [s_X10_ask_L20, k2, if_pos (nI_le (Nat.le_refl k) (by omega))]
    unfold s_X10_ask_L123
    cases e : zdb (fun j => zlc h nc nl nt t j 7) M k with
    | none =>
      rw [if_neg (show ¬ (0 : Int32) ≤ zoi none from zm1ge), zbs rfl, ← nI_0, zx_or, Nat.or_zero]
    | some j =>
      have := (zdb_lt k j e).1
      rw [if_pos (show (0 : Int32) ≤ zoi (some j) from zge0 (by omega)), zbs rfl, show zoi (some j) = nI j from rfl, zsh1 j (by omega), zx_or]
  | m + 1, k, f + 1, h1, hm, hf, hb => by
    have hs := hb.same (by decide) (by decide)
    have hN1 := zIN_same hs hN
    obtain ⟨⟨d1, d2, d3⟩, -, ⟨⟨k1, k2, k3⟩, -⟩, -⟩ := id hN1
    have hk : k < nk := by omega
    rw [s_X10_ask_L20, k2, if_neg (nI_ge hk (by omega))]
    unfold s_X10_ask_L58 s_X10_ask_L59 s_X10_ask_L98 s_X10_ask_L103 s_X10_ask_L104
    have stay : ∀ h2 : zHp, zbut 89 h h2 → ¬ (M.testBit k = false ∧ zdv (fun j => zlc h nc nl nt t j 7) (zdb (fun j => zlc h nc nl nt t j 7) M k) < zlc h nc nl nt t k 7) → ∃ h3 : zHp, s_X10_ask_L20 k9 f (nI M) a2 (zoi (zdb (fun j => zlc h nc nl nt t j 7) M k)) (nI k + 1) h2 = k9 (nI (match zdb (fun j => zlc h nc nl nt t j 7) M nk with | none => M | some k => M ||| 2 ^ k)) (a2 + 1) h3 ∧ zbut 89 h h3 := fun h2 b2 no => by
      have := m_as1 hN ht k9 hM a2 m (k + 1) f h2 (by omega) (by omega) b2
      rw [zdb, if_neg no] at this
      rw [nI_1]
      exact this
    have go : ∀ h2 : zHp, zbut 89 h h2 → (M.testBit k = false ∧ zdv (fun j => zlc h nc nl nt t j 7) (zdb (fun j => zlc h nc nl nt t j 7) M k) < zlc h nc nl nt t k 7) → ∃ h3 : zHp, s_X10_ask_L20 k9 f (nI M) a2 (nI k) (nI k + 1) h2 = k9 (nI (match zdb (fun j => zlc h nc nl nt t j 7) M nk with | none => M | some k => M ||| 2 ^ k)) (a2 + 1) h3 ∧ zbut 89 h h3 := fun h2 b2 yes => by
      have := m_as1 hN ht k9 hM a2 m (k + 1) f h2 (by omega) (by omega) b2
      rw [zdb, if_pos yes] at this
      rw [nI_1]
      exact this
    cases b : M.testBit k
    · rw [if_pos ((zbt0 (by omega) (by omega)).mpr b)]
      obtain ⟨g, g1, g2⟩ := m_dueQ hN1 hk
      rw [zRisk_same hs, zDue_same hs] at g1
      have bg := hb.tr g2
      have hNg := zIN_same (bg.same (by decide) (by decide)) hN
      have dl := zDue_le (i := k) hN (zRisk_rng hN hk).1
      have e7 : nI t + (7 : Int32) = nI (t + 7) := by rw [show (7 : Int32) = nI 7 from by decide, nI_add]
      rw [zbs g1, hNg.1.2.1, e7]
      by_cases c : zDue h nl k (zRisk h nc nl nt k (nI t)) (nI t) < t + 7
      · have cp := (zlc_pos hN hk).mpr c
        rw [if_neg (nI_ge c (by omega)), if_neg z10]
        cases e : zdb (fun j => zlc h nc nl nt t j 7) M k with
        | none =>
          rw [if_pos (show zoi none < 0 from zm1lt)]
          exact go g bg ⟨b, by rw [e]; exact cp⟩
        | some j =>
          have jk := (zdb_lt k j e).1
          have jb := zlc_le (d := 7) hN (show j < nk by omega) (Nat.le_refl 7)
          have kb := zlc_le (d := 7) hN hk (Nat.le_refl 7)
          obtain ⟨p, p1, p2⟩ := m_costQ (day := t + 7) hNg hk (by omega)
          have bp := bg.tr p2
          have hNp := zIN_same (bp.same (by decide) (by decide)) hN
          obtain ⟨q, q1, q2⟩ := m_costQ (day := t + 7) hNp (show j < nk by omega) (by omega)
          have bq := bp.tr q2
          have ep : s_X10_costOf (nI k) (nI (t + 7)) g = some (nI (zlc h nc nl nt t k 7), p) := by
            rw [p1]
            show some (nI (zlc g nc nl nt t k 7), p) = _
            rw [zlc_same (bg.same (by decide) (by decide))]
          have eq : s_X10_costOf (nI j) (nI (t + 7)) p = some (nI (zlc h nc nl nt t j 7), q) := by
            rw [q1]
            show some (nI (zlc p nc nl nt t j 7), q) = _
            rw [zlc_same (bp.same (by decide) (by decide))]
          rw [if_neg (show ¬ zoi (some j) < 0 from nI_pos (by omega)), zbs ep, hNp.1.2.1, e7, show zoi (some j) = nI j from rfl, zbs eq]
          by_cases l : zlc h nc nl nt t k 7 ≤ zlc h nc nl nt t j 7
          · rw [if_pos (nI_le l (by omega))]
            have := stay q bq (fun z => by rw [e] at z; have z2 : zlc h nc nl nt t j 7 < zlc h nc nl nt t k 7 := z.2; omega)
            rw [e] at this
            exact this
          · rw [if_neg (nI_ge (show zlc h nc nl nt t j 7 < zlc h nc nl nt t k 7 by omega) (by omega))]
            exact go q bq ⟨b, by rw [e]; show zlc h nc nl nt t j 7 < _; omega⟩
      · have cp : ¬ 0 < zlc h nc nl nt t k 7 := fun z => c ((zlc_pos hN hk).mp z)
        rw [if_pos (nI_le (show t + 7 ≤ zDue h nl k (zRisk h nc nl nt k (nI t)) (nI t) by omega) (by omega)), if_pos rfl]
        exact stay g bg (fun z => by omega)
    · rw [if_neg (fun z => by rw [zbt0 (by omega) (by omega), b] at z; cases z), if_pos rfl]
      exact stay h1 hb (fun z => by rw [b] at z; cases z.1)
theorem m_as2 {h : zHp} {t nc nk nl nt np : Nat} (hN : zIN h t nc nk nl nt np) (ht : t + 7 ≤ 1500) : ∀ m r f (h1 : zHp), r + m = 6 → m < f → zbut 89 h h1 → ∃ h2 : zHp, s_X10_ask_L9 f (nI (zch (fun j => zlc h nc nl nt t j 7) nk r)) (nI r) h1 = s_X10_ask_L133 zFU (nI (zMk h nc nl nt t nk)) 0 h2 ∧ zbut 89 h h2
  | 0, r, f + 1, h1, hm, hf, hb => by
    obtain rfl : r = 6 := by omega
    exact ⟨h1, by rw [s_X10_ask_L9, if_pos (show (6 : Int32) ≤ nI 6 by decide)]; rfl, hb⟩
  | m + 1, r, f + 1, h1, hm, hf, hb => by
    have k3 := hN.2.2.1.1.2.2
    have ml := zch_lt (c := fun j => zlc h nc nl nt t j 7) (K := nk) r
    have p20 : 2 ^ nk ≤ 2 ^ 20 := Nat.pow_le_pow_right (by decide) k3
    obtain ⟨g, g1, g2⟩ := m_as1 hN ht (s_X10_ask_L9 f) (M := zch (fun j => zlc h nc nl nt t j 7) nk r) (by omega) (nI r) nk 0 zFU h1 (by omega) (zFU_gt (by omega)) hb
    obtain ⟨g', l1, l2⟩ := m_as2 hN ht m (r + 1) f g (by omega) (by omega) g2
    refine ⟨g', ?_, l2⟩
    rw [show zoi (zdb (fun j => zlc h nc nl nt t j 7) (zch (fun j => zlc h nc nl nt t j 7) nk r) 0) = -1 from rfl, nI_0, nI_1] at g1
    rw [zch] at l1
    rw [s_X10_ask_L9, if_neg (show ¬ (6 : Int32) ≤ nI r from nI_ge (b := 6) (by omega) (by decide)), g1]
    exact l1
/-- what stands when the kitchens below k are asked -/
def zAw (h0 : zHp) (nc nl nt t : Nat) (B : Nat → Bool) (k : Nat) (h : zHp) : Prop := zSame h0 h ∧ h.1 67 32 = nI (zcn B k) ∧ ∀ p, p < zcn B k → h.1 93 p = nI (zpt B k p) ∧ ∀ d, d ≤ 5 → h.1 94 (6 * p + d) = nI (zPk h0 nc nl nt t (zpt B k p) d)
theorem zix6' {a b : Nat} : (6 : Int32) * nI a + nI b = nI (6 * a + b) := by
  have e : (6 : Int32) = nI 6 := by decide
  rw [e, pk_mul, nI_add]
theorem m_as3 {h0 : zHp} {t nc nk nl nt np k p : Nat} (hN : zIN h0 t nc nk nl nt np) (ht : t + 7 ≤ 1500) (hk : k < nk) (hp : p < 6) (k133 : Int32 → Int32 → zHp → Option zHp) (a1 : Int32) : ∀ m d f (h : zHp), d + m = 5 → m < f → zSame h0 h → h.1 67 32 = nI p → (∀ e, e < d → h.1 94 (6 * p + e) = nI (zPk h0 nc nl nt t k e)) → ∃ h2 : zHp, s_X10_ask_L162 k133 f a1 (nI k) (nI d) h = k133 a1 (nI (k + 1)) h2 ∧ zSame h0 h2 ∧ h2.1 67 32 = nI (p + 1) ∧ h2.1 93 = h.1 93 ∧ (∀ e, e ≤ 5 → h2.1 94 (6 * p + e) = nI (zPk h0 nc nl nt t k e)) ∧ (∀ j, j < 6 * p → h2.1 94 j = h.1 94 j)
  | 0, d, f + 1, h, hm, hf, hs, h32, h94 => by
    obtain rfl : d = 5 := by omega
    have hN1 := zIN_same hs hN
    obtain ⟨g, g1, g2⟩ := m_costQ (day := t + 7) hN1 hk (by omega)
    have g1' : s_X10_costOf (nI k) (nI (t + 7)) h = some (nI (zlc h0 nc nl nt t k 7), g) := by
      rw [g1]
      show some (nI (zlc h nc nl nt t k 7), g) = _
      rw [zlc_same hs]
    have sg : zSame h0 g := hs.tr (g2.same (by decide) (by decide))
    have g32 : g.1 67 32 = nI p := by rw [g2.1 67 (by decide)]; exact h32
    refine ⟨zwi (zwi g 94 (6 * p + 5) (nI (2 * zlc h0 nc nl nt t k 7))) 67 32 (nI (p + 1)), ?_, (sg.wi 94 _ _ (by decide) (Or.inl (by decide))).wi 67 32 _ (by decide) (Or.inr (Or.inl rfl)), ?_, ?_, fun e he => ?_, fun j hj => ?_⟩
    · rw [s_X10_ask_L162, if_pos z55, hN1.1.2.1, show (7 : Int32) = nI 7 from by decide, nI_add, zbs g1', h32, show (5 : Int32) = nI 5 from by decide, zix6', show (2 : Int32) = nI 2 from by decide, pk_mul, zbs (zuiA (show 6 * p + 5 < 36 by omega) (by decide) g 94 _), zwi_ne 67 (by decide), g32, zbs rfl, nI_1]
      unfold zpi s_X10_ask_L236
      rw [zbs rfl, nI_1]
    · rw [zwi_self, pk_us]
    · rw [zwi_ne 93 (by decide), zwi_ne 93 (by decide), g2.1 93 (by decide)]
    · rw [zwi_ne 94 (by decide), zwi_self]
      by_cases z : e = 5
      · subst z; rw [pk_us]; rfl
      · rw [pk_un (by omega), g2.1 94 (by decide)]; exact h94 e (by omega)
    · rw [zwi_ne 94 (by decide), zwi_self, pk_un (by omega), g2.1 94 (by decide)]
  | m + 1, d, f + 1, h, hm, hf, hs, h32, h94 => by
    have hN1 := zIN_same hs hN
    obtain ⟨g, g1, g2⟩ := m_costQ (day := t + d) hN1 hk (by omega)
    have g1' : s_X10_costOf (nI k) (nI (t + d)) h = some (nI (zlc h0 nc nl nt t k d), g) := by
      rw [g1]
      show some (nI (zlc h nc nl nt t k d), g) = _
      rw [zlc_same hs]
    have sg : zSame h0 g := hs.tr (g2.same (by decide) (by decide))
    have g32 : g.1 67 32 = nI p := by rw [g2.1 67 (by decide)]; exact h32
    obtain ⟨g', l1, l2, l3, l4, l5, l6⟩ := m_as3 hN ht hk hp k133 a1 m (d + 1) f (zwi g 94 (6 * p + d) (nI (zlc h0 nc nl nt t k d))) (by omega) (by omega) (sg.wi 94 _ _ (by decide) (Or.inl (by decide))) (by rw [zwi_ne 67 (by decide)]; exact g32) (fun e he => by
      rw [zwi_self]
      by_cases z : e = d
      · subst z; rw [pk_us]; unfold zPk; rw [if_pos (by omega)]
      · rw [pk_un (by omega), g2.1 94 (by decide)]; exact h94 e (by omega))
    refine ⟨g', ?_, l2, l3, by rw [l4, zwi_ne 93 (by decide), g2.1 93 (by decide)], l5, fun j hj => by rw [l6 j hj, zwi_self, pk_un (by omega), g2.1 94 (by decide)]⟩
    rw [s_X10_ask_L162, if_neg (z5le (show d < 5 by omega)), hN1.1.2.1, nI_add, zbs g1', h32, zix6', zbs (zuiA (show 6 * p + d < 36 by omega) (by decide) g 94 _), nI_1]
    exact l1
/-- what asking leaves -/
def zAs (h0 : zHp) (nc nl nt t nk : Nat) (h : zHp) : Prop := zSame h0 h ∧ h.1 67 32 = nI (zSz h0 nc nl nt t nk) ∧ (∀ p, p < zSz h0 nc nl nt t nk → h.1 93 p = nI (zKt h0 nc nl nt t nk p) ∧ ∀ d, d ≤ 5 → h.1 94 (6 * p + d) = nI (zPp h0 nc nl nt t nk p d)) ∧ ∀ i, i ≤ zSz h0 nc nl nt t nk → h.1 95 i = nI (zlo (zPp h0 nc nl nt t nk) (zSz h0 nc nl nt t nk - i) i)
theorem m_as5 {s : Nat} {P : Nat → Nat → Nat} (hs6 : s ≤ 6) : ∀ j f (h : zHp), j ≤ s → j < f → (∀ p, p < s → h.1 94 (6 * p) = nI (P p 0)) → (∀ i, j ≤ i → i ≤ s → h.1 95 i = nI (zlo P (s - i) i)) → ∃ h2 : zHp, s_X10_ask_L259 f (nI j + (-1 : Int32)) h = some h2 ∧ zbut 95 h h2 ∧ ∀ i, i ≤ s → h2.1 95 i = nI (zlo P (s - i) i)
  | j, 0, h, _, hf, _, _ => by omega
  | 0, f + 1, h, hj, hf, h94, h95 => ⟨h, by rw [s_X10_ask_L259, if_pos (show nI 0 + (-1 : Int32) < 0 by decide)], zbut.rf 95 h, fun i hi => h95 i (Nat.zero_le i) hi⟩
  | j + 1, f + 1, h, hj, hf, h94, h95 => by
    have e1 : zlo P (s - j) j = P j 0 + zlo P (s - (j + 1)) (j + 1) := by rw [show s - j = (s - (j + 1)) + 1 by omega, zlo]
    obtain ⟨g, g1, g2, g3⟩ := m_as5 (P := P) hs6 j f (zwi h 95 j (nI (zlo P (s - j) j))) (by omega) (by omega) (fun p hp => by rw [zwi_ne 94 (by decide)]; exact h94 p hp) (fun i h1 h2 => by
      rw [zwi_self]
      by_cases z : i = j
      · subst z; rw [pk_us]
      · rw [pk_un z]; exact h95 i (by omega) h2)
    refine ⟨g, ?_, ((zbut.rf 95 h).wi _ _).tr g2, g3⟩
    have e6 : (6 : Int32) * nI j = nI (6 * j) := by rw [show (6 : Int32) = nI 6 from by decide, pk_mul]
    rw [s_X10_ask_L259, zpre1, if_neg (nI_pos (by omega)), nI_1, zbs (zriA (show j + 1 < 7 by omega) (by decide) h 95), h95 (j + 1) (Nat.le_refl _) hj, e6, zbs (zriA (show 6 * j < 36 by omega) (by decide) h 94), h94 j (by omega), nI_add, Nat.add_comm, ← e1, zbs (zuiA (show j < 7 by omega) (by decide) h 95 _)]
    exact g1
theorem m_as4 {h0 : zHp} {t nc nk nl nt np : Nat} (hN : zIN h0 t nc nk nl nt np) (ht : t + 7 ≤ 1500) : ∀ m k f (h : zHp), k + m = nk → m < f → zAw h0 nc nl nt t (Nat.testBit (zMk h0 nc nl nt t nk)) k h → ∃ h2 : zHp, s_X10_ask_L133 f (nI (zMk h0 nc nl nt t nk)) (nI k) h = some h2 ∧ zAs h0 nc nl nt t nk h2
  | 0, k, f + 1, h, hm, hf, A => by
    obtain rfl : k = nk := by omega
    obtain ⟨hs, e32, ep⟩ := A
    obtain ⟨-, -, ⟨⟨k1, k2, k3⟩, -⟩, -⟩ := zIN_same hs hN
    have s6 := zSz_le h0 nc nl nt t k
    have e32' : h.1 67 32 = nI (zSz h0 nc nl nt t k) := e32
    obtain ⟨g, g1, g2, g3⟩ := m_as5 (s := zSz h0 nc nl nt t k) (P := zPp h0 nc nl nt t k) s6 (zSz h0 nc nl nt t k) zFU (zwi h 95 (zSz h0 nc nl nt t k) 0) (Nat.le_refl _) (zFU_gt (by omega)) (fun p hp => by rw [zwi_ne 94 (by decide)]; exact (ep p hp).2 0 (by decide)) (fun i h1 h2 => by
      obtain rfl : i = zSz h0 nc nl nt t k := by omega
      rw [zwi_self, pk_us, Nat.sub_self]
      exact nI_0.symm)
    have b := ((zbut.rf 95 h).wi (zSz h0 nc nl nt t k) 0).tr g2
    refine ⟨g, ?_, hs.tr (b.same (by decide) (by decide)), by rw [b.1 67 (by decide)]; exact e32', fun p hp => ?_, g3⟩
    · rw [s_X10_ask_L133, k2, if_pos (nI_le (Nat.le_refl k) (by omega)), e32', zbs (zuiA (show zSz h0 nc nl nt t k < 7 by omega) (by decide) h 95 _), zwi_ne 67 (by decide), e32', zbs rfl, Int32.sub_eq_add_neg]
      exact g1
    · rw [b.1 93 (by decide), b.1 94 (by decide)]; exact ep p hp
  | m + 1, k, f + 1, h, hm, hf, A => by
    have hk : k < nk := by omega
    obtain ⟨hs, e32, ep⟩ := A
    obtain ⟨-, -, ⟨⟨k1, k2, k3⟩, -⟩, -⟩ := zIN_same hs hN
    have ml : zMk h0 nc nl nt t nk < 2 ^ 20 := Nat.lt_of_lt_of_le (zch_lt 6) (Nat.pow_le_pow_right (by decide) k3)
    rw [s_X10_ask_L133, k2, if_neg (nI_ge hk (by omega))]
    cases c : (zMk h0 nc nl nt t nk).testBit k
    · rw [if_neg (fun z => by rw [zbt1 (by omega) (by omega), c] at z; cases z)]
      unfold s_X10_ask_L236
      rw [nI_1]
      refine m_as4 hN ht m (k + 1) f h (by omega) (by omega) ?_
      have cB : zcn (Nat.testBit (zMk h0 nc nl nt t nk)) (k + 1) = zcn (Nat.testBit (zMk h0 nc nl nt t nk)) k := by rw [zcn, c]; rfl
      have pB : zpt (Nat.testBit (zMk h0 nc nl nt t nk)) (k + 1) = zpt (Nat.testBit (zMk h0 nc nl nt t nk)) k := by rw [zpt, c]; rfl
      unfold zAw
      rw [cB, pB]
      exact ⟨hs, e32, ep⟩
    · have h6 : zcn (Nat.testBit (zMk h0 nc nl nt t nk)) k < 6 := by
        have a := zcn_step (p := Nat.testBit (zMk h0 nc nl nt t nk)) c hk
        have b := zSz_le h0 nc nl nt t nk
        unfold zSz at b
        omega
      obtain ⟨g, g1, g2, g3, g4, g5, g6⟩ := m_as3 hN ht hk h6 (s_X10_ask_L133 f) (nI (zMk h0 nc nl nt t nk)) 5 0 zFU (zwi h 93 (zcn (Nat.testBit (zMk h0 nc nl nt t nk)) k) (nI k)) (by omega) (zFU_gt (by decide)) (hs.wi 93 _ _ (by decide) (Or.inl (by decide))) (by rw [zwi_ne 67 (by decide)]; exact e32) (fun e he => by omega)
      have cB : zcn (Nat.testBit (zMk h0 nc nl nt t nk)) (k + 1) = zcn (Nat.testBit (zMk h0 nc nl nt t nk)) k + 1 := by rw [zcn, c]; rfl
      have pB : zpt (Nat.testBit (zMk h0 nc nl nt t nk)) (k + 1) = znp (zpt (Nat.testBit (zMk h0 nc nl nt t nk)) k) (zcn (Nat.testBit (zMk h0 nc nl nt t nk)) k) k := by rw [zpt, c]; rfl
      rw [nI_0] at g1
      rw [if_pos ((zbt1 (by omega) (by omega)).mpr c), e32, zbs (zuiA h6 (by decide) h 93 _), g1]
      refine m_as4 hN ht m (k + 1) f g (by omega) (by omega) ⟨g2, by rw [cB]; exact g3, fun p hp => ?_⟩
      rw [cB] at hp
      rw [pB, g4, zwi_self]
      unfold znp
      by_cases e : p = zcn (Nat.testBit (zMk h0 nc nl nt t nk)) k
      · subst e
        rw [if_pos rfl, pk_us]
        exact ⟨rfl, g5⟩
      · obtain ⟨a1, a2⟩ := ep p (by omega)
        rw [if_neg e, pk_un e]
        exact ⟨a1, fun d hd => by rw [g6 _ (by omega), zwi_ne 94 (by decide)]; exact a2 d hd⟩
theorem m_ask {h : zHp} {t nc nk nl nt np : Nat} (hN : zIN h t nc nk nl nt np) (ht : t + 7 ≤ 1500) : ∃ h2 : zHp, s_X10_ask h = some h2 ∧ zAs h nc nl nt t nk h2 := by
  have k3 := hN.2.2.1.1.2.2
  have s0 : zSame h (zwi h 67 32 0) := (zSame.rf h).wi 67 32 0 (by decide) (Or.inr (Or.inl rfl))
  have hN0 := zIN_same s0 hN
  obtain ⟨g, g1, g2⟩ := m_as2 hN0 ht 6 0 zFU (zwi h 67 32 0) (by omega) (zFU_gt (by decide)) (zbut.rf 89 _)
  have sg : zSame h g := s0.tr (g2.same (by decide) (by decide))
  rw [show zch (fun j => zlc (zwi h 67 32 0) nc nl nt t j 7) nk 0 = 0 from rfl, nI_0, zMk_same s0] at g1
  obtain ⟨g', l1, l2⟩ := m_as4 hN ht nk 0 zFU g (by omega) (zFU_gt (by omega)) ⟨sg, by rw [g2.1 67 (by decide), zwi_self, pk_us]; exact nI_0.symm, fun p hp => by simp [zcn] at hp⟩
  refine ⟨g', ?_, l2⟩
  unfold s_X10_ask zpi
  rw [zbs rfl, g1]
  rw [nI_0] at l1
  exact l1

/-! ===== rounds: the plan of the class ===== -/
theorem zpt_at {B : Nat → Bool} {a : Nat} (hB : B a = true) : ∀ K, a < K → zpt B K (zcn B a) = a
  | 0, h => by omega
  | K + 1, h => by
    rw [zpt]
    by_cases e : a = K
    · subst e
      rw [if_pos hB]
      unfold znp
      rw [if_pos rfl]
    · have ih := zpt_at hB K (by omega)
      cases c : B K
      · exact ih
      · rw [if_pos rfl]
        unfold znp
        have := zcn_step (p := B) hB (show a < K by omega)
        rw [if_neg (by omega)]
        exact ih
/-- the problem of a week -/
def zMk (h : zHp) (nc nl nt t nk : Nat) : Nat := zch (fun j => zlc h nc nl nt t j 7) nk 6
def zKt (h : zHp) (nc nl nt t nk : Nat) : Nat → Nat := zpt (Nat.testBit (zMk h nc nl nt t nk)) nk
def zSz (h : zHp) (nc nl nt t nk : Nat) : Nat := zcn (Nat.testBit (zMk h nc nl nt t nk)) nk
def zPp (h : zHp) (nc nl nt t nk p d : Nat) : Nat := zPk h nc nl nt t (zKt h nc nl nt t nk p) d
def zNp (h : zHp) (nc nl nt t nk p : Nat) : Nat := zNk h (zKt h nc nl nt t nk p)
def zFp (h : zHp) (nc nl nt t nk n p : Nat) : Nat := zFk h n (zKt h nc nl nt t nk p)
theorem zMk_same {h h' : zHp} (hs : zSame h h') (nc nl nt t nk : Nat) : zMk h' nc nl nt t nk = zMk h nc nl nt t nk := by
  unfold zMk
  congr 1
  funext j
  exact zlc_same hs nc nl nt t j 7
theorem zSz_le (h : zHp) (nc nl nt t nk : Nat) : zSz h nc nl nt t nk ≤ 6 := zch_cn 6
theorem zKt_is {h : zHp} {nc nl nt t nk p : Nat} (hp : p < zSz h nc nl nt t nk) : zKt h nc nl nt t nk p < nk ∧ (zMk h nc nl nt t nk).testBit (zKt h nc nl nt t nk p) = true ∧ zcn (Nat.testBit (zMk h nc nl nt t nk)) (zKt h nc nl nt t nk p) = p := zpt_is nk p hp
theorem zPp_le {h : zHp} {t nc nk nl nt np p d : Nat} (hN : zIN h t nc nk nl nt np) (hp : p < zSz h nc nl nt t nk) : zPp h nc nl nt t nk p d ≤ 40000000 := by
  have k := (zKt_is hp).1
  have a := zlc_le (d := 7) hN k (Nat.le_refl 7)
  unfold zPp zPk
  split
  · have b := zlc_le (d := d) hN k (by omega)
    omega
  · omega
theorem e_pl1 {h0 : zHp} {t nc nk nl nt np n cap : Nat} (hN : zIN h0 t nc nk nl nt np) (ht : t + 7 ≤ 1500) (hn : n ≤ 3) (hcap : cap ≤ 9) : ∀ m k f (h : zHp), k + m = nk → m < f → zEw h0 nc nl nt t nk n cap (Nat.testBit (zMk h0 nc nl nt t nk)) k h → ∃ h2 : zHp, s_X9_planWeek_L19 f (nI n) (nI (zMk h0 nc nl nt t nk)) (nI k) h = some (nI (zLw (zPp h0 nc nl nt t nk) (zNp h0 nc nl nt t nk) (zFp h0 nc nl nt t nk n) (zSz h0 nc nl nt t nk) 0 (fun _ => cap)), h2) ∧ zSame h0 h2 ∧ h2.1 35 10 = nI (zSz h0 nc nl nt t nk) ∧ (∀ p, p < zSz h0 nc nl nt t nk → h2.1 36 p = nI (zKt h0 nc nl nt t nk p)) ∧ (∀ p, p < zSz h0 nc nl nt t nk → h2.1 40 p = nI (zgw (zPp h0 nc nl nt t nk) (zNp h0 nc nl nt t nk) (zFp h0 nc nl nt t nk n) (zSz h0 nc nl nt t nk) 0 (fun _ => cap) p / 8) ∧ h2.1 41 p = nI (zgw (zPp h0 nc nl nt t nk) (zNp h0 nc nl nt t nk) (zFp h0 nc nl nt t nk n) (zSz h0 nc nl nt t nk) 0 (fun _ => cap) p % 8))
  | 0, k, f + 1, h, hm, hf, E => by
    obtain rfl : k = nk := by omega
    obtain ⟨hs, e4, e10, e11, e42, ep⟩ := E
    obtain ⟨-, -, ⟨⟨k1, k2, k3⟩, -⟩, -⟩ := zIN_same hs hN
    have w : zWk h (zSz h0 nc nl nt t k) n (zPp h0 nc nl nt t k) (zNp h0 nc nl nt t k) (zFp h0 nc nl nt t k n) := by
      refine ⟨⟨e10, zSz_le h0 nc nl nt t k⟩, ⟨e11, hn⟩, fun p hp => ?_, fun p hp d hd => ⟨(ep p hp).2.2.2 d hd, zPp_le hN hp⟩⟩
      refine ⟨(ep p hp).2.1, (ep p hp).2.2.1, ?_, zfr_lt h0 _ n⟩
      unfold zNp zNk
      split
      · exact Or.inl rfl
      · exact Or.inr rfl
    have r : zRo h (fun _ => cap) := fun j hj => ⟨e42 j hj, hcap⟩
    obtain ⟨g, g1, g2, g3⟩ := e_settle w r
    refine ⟨g, ?_, hs.tr ⟨fun c hc => ?_, fun j _ _ => ?_⟩, ?_, fun p hp => ?_, g3⟩
    · rw [s_X9_planWeek_L19]
      unfold s_X4_size
      rw [zbs rfl, k1, if_pos (nI_le (Nat.le_refl k) (by omega)), zbs g1]
    · have ne : ∀ d, zscr d = true → c ≠ d := fun d hd z => by rw [z, hd] at hc; cases hc
      exact g2 c (ne 40 (by decide)) (ne 41 (by decide)) (ne 42 (by decide)) (ne 43 (by decide)) (ne 44 (by decide)) (ne 45 (by decide))
    · rw [g2 67 (by decide) (by decide) (by decide) (by decide) (by decide) (by decide)]
    · rw [g2 35 (by decide) (by decide) (by decide) (by decide) (by decide) (by decide)]; exact e10
    · rw [g2 36 (by decide) (by decide) (by decide) (by decide) (by decide) (by decide)]; exact (ep p hp).1
  | m + 1, k, f + 1, h, hm, hf, E => by
    have hk : k < nk := by omega
    obtain ⟨-, -, ⟨⟨k1, k2, k3⟩, -⟩, -⟩ := zIN_same E.1 hN
    have ml : zMk h0 nc nl nt t nk < 2 ^ 20 := Nat.lt_of_lt_of_le (zch_lt 6) (Nat.pow_le_pow_right (by decide) k3)
    rw [s_X9_planWeek_L19]
    unfold s_X4_size s_X9_planWeek_L44
    rw [zbs rfl, k1, if_neg (nI_ge hk (by omega))]
    cases c : (zMk h0 nc nl nt t nk).testBit k
    · rw [if_pos ((zbt0 (by omega) (by omega)).mpr c), nI_1]
      refine e_pl1 hN ht hn hcap m (k + 1) f h (by omega) (by omega) ?_
      have cB : zcn (Nat.testBit (zMk h0 nc nl nt t nk)) (k + 1) = zcn (Nat.testBit (zMk h0 nc nl nt t nk)) k := by rw [zcn, c]; rfl
      have pB : zpt (Nat.testBit (zMk h0 nc nl nt t nk)) (k + 1) = zpt (Nat.testBit (zMk h0 nc nl nt t nk)) k := by rw [zpt, c]; rfl
      unfold zEw at E ⊢
      rw [cB, pB]
      exact E
    · have h6 : zcn (Nat.testBit (zMk h0 nc nl nt t nk)) k < 6 := by
        have a := zcn_step (p := Nat.testBit (zMk h0 nc nl nt t nk)) c hk
        have b := zSz_le h0 nc nl nt t nk
        unfold zSz at b
        omega
      obtain ⟨g, g1, g2⟩ := e_ew hN ht hn hk c h6 E
      rw [if_neg (fun z => by rw [zbt0 (by omega) (by omega), c] at z; cases z), zbs g1, nI_1]
      exact e_pl1 hN ht hn hcap m (k + 1) f g (by omega) (by omega) g2
/-- what the plan of the class leaves -/
def zPl (h0 : zHp) (nc nl nt t nk n cap : Nat) (h2 : zHp) : Prop := zSame h0 h2 ∧ h2.1 35 10 = nI (zSz h0 nc nl nt t nk) ∧ (∀ p, p < zSz h0 nc nl nt t nk → h2.1 36 p = nI (zKt h0 nc nl nt t nk p)) ∧ (∀ p, p < zSz h0 nc nl nt t nk → h2.1 40 p = nI (zgw (zPp h0 nc nl nt t nk) (zNp h0 nc nl nt t nk) (zFp h0 nc nl nt t nk n) (zSz h0 nc nl nt t nk) 0 (fun _ => cap) p / 8) ∧ h2.1 41 p = nI (zgw (zPp h0 nc nl nt t nk) (zNp h0 nc nl nt t nk) (zFp h0 nc nl nt t nk n) (zSz h0 nc nl nt t nk) 0 (fun _ => cap) p % 8))
theorem e_openW {h : zHp} {n : Nat} (cap : Int32) (h1 : 1 ≤ n) (hn : n ≤ 3) : ∃ h2 : zHp, s_X8_open (nI n) cap h = some h2 ∧ (∀ k, k ≠ 35 → k ≠ 42 → h2.1 k = h.1 k) ∧ h2.2 = h.2 ∧ h2.1 35 10 = 0 ∧ h2.1 35 11 = nI (2 ^ n) ∧ ∀ j, j < 15 → h2.1 42 j = cap := by
  obtain ⟨F, e1, e2⟩ := zfl_gk (zwi (zwi h 35 10 0) 35 11 (nI (2 ^ n))) 42 15 cap
  refine ⟨zgk (zwi (zwi h 35 10 0) 35 11 (nI (2 ^ n))) 42 F, ?_, fun k k1 k2 => ?_, rfl, ?_, ?_, fun j hj => ?_⟩
  · unfold s_X8_open
    have mx : ∀ h' : zHp, s_J9_max_7cf53 (0 : Int32) (nI n) h' = some (nI n, h') := fun h' => by
      unfold s_J9_max_7cf53 s_J9_max_7cf53_L10
      rw [if_pos (show (0 : Int32) < nI n from nI_lt (a := 0) (by omega) (by omega))]
    rw [show zpi h 35 10 (0 : Int32) = some (zwi h 35 10 0) from rfl, zbs rfl, show (3 : Int32) = nI 3 from by decide, zbs (e_min (by omega) (by decide)), show min n 3 = n by omega, zbs (mx _), zbs rfl, zsh1 n (by omega), show zpi (zwi h 35 10 0) 35 11 (nI (2 ^ n)) = some (zwi (zwi h 35 10 0) 35 11 (nI (2 ^ n))) from rfl, zbs rfl, zbs (f_J7_fill_53178_42 cap _), e1]
  · rw [zgk_ne _ _ k2, zwi_ne k k1, zwi_ne k k1]
  · rw [zgk_ne _ _ (by decide), zwi_self, pk_un (by decide), zwi_self, pk_us]
  · rw [zgk_ne _ _ (by decide), zwi_self, pk_us]
  · rw [zgk_at]; exact e2 j hj
theorem e_plan {h : zHp} {t nc nk nl nt np n cap : Nat} (hN : zIN h t nc nk nl nt np) (ht : t + 7 ≤ 1500) (h1 : 1 ≤ n) (hn : n ≤ 3) (hcap : cap ≤ 9) (ec : h.1 0 15 = nI cap) : ∃ h2 : zHp, s_X9_planWeek (nI n) h = some (nI (zLw (zPp h nc nl nt t nk) (zNp h nc nl nt t nk) (zFp h nc nl nt t nk n) (zSz h nc nl nt t nk) 0 (fun _ => cap)), h2) ∧ zPl h nc nl nt t nk n cap h2 := by
  have k3 := hN.2.2.1.1.2.2
  obtain ⟨g, g1, g2, g3⟩ := e_late hN ht nk 0 zFU h (by omega) (zFU_gt (by omega)) (zSame.rf h) (fun j hj => by omega)
  rw [nI_0] at g1
  have e15 : g.1 0 15 = nI cap := by rw [g2.1 0 (by decide)]; exact ec
  obtain ⟨g', l1, l2, l3, l4, l5, l6⟩ := e_openW (h := g) (nI cap) h1 hn
  have s2 : zSame h g' := g2.tr (zSame2 (p := 35) (q := 42) (by decide) (by decide) (by decide) (by decide) l2)
  obtain ⟨h2, q1, q2⟩ := e_pl1 hN ht hn hcap nk 0 zFU g' (by omega) (zFU_gt (by omega)) ⟨s2, fun j hj => by rw [l2 4 (by decide) (by decide)]; exact g3 j hj, by rw [l4]; exact nI_0.symm, l5, l6, fun p hp => by simp [zcn] at hp⟩
  refine ⟨h2, ?_, q2⟩
  unfold s_X9_planWeek s_X9_dearestToLeave
  rw [zbs g1, e15, zbs l1]
  rw [nI_0] at q1
  exact q1
/-- the way of a kitchen -/
def zWy (h : zHp) (nc nl nt t nk n cap a : Nat) : Nat := if (zMk h nc nl nt t nk).testBit a then zgw (zPp h nc nl nt t nk) (zNp h nc nl nt t nk) (zFp h nc nl nt t nk n) (zSz h nc nl nt t nk) 0 (fun _ => cap) (zcn (Nat.testBit (zMk h nc nl nt t nk)) a) else 40
theorem zgw_le {P : Nat → Nat → Nat} {N F : Nat → Nat} : ∀ m i ρ j, zgw P N F m i ρ j ≤ 40
  | 0, _, _, _ => Nat.le_refl _
  | m + 1, i, ρ, j => by
    rw [zgw]
    split
    · exact zfw_le 40
    · exact zgw_le m (i + 1) _ j
theorem zWy_le (h : zHp) (nc nl nt t nk n cap a : Nat) : zWy h nc nl nt t nk n cap a ≤ 40 := by
  unfold zWy
  split
  · exact zgw_le _ _ _ _
  · exact Nat.le_refl _
theorem zWy_hit {h : zHp} {nc nl nt t nk n cap a p : Nat} (hp : p < zSz h nc nl nt t nk) (e : zKt h nc nl nt t nk p = a) : zWy h nc nl nt t nk n cap a = zgw (zPp h nc nl nt t nk) (zNp h nc nl nt t nk) (zFp h nc nl nt t nk n) (zSz h nc nl nt t nk) 0 (fun _ => cap) p := by
  obtain ⟨-, b, c⟩ := zKt_is hp
  rw [e] at b c
  unfold zWy
  rw [if_pos b, c]
theorem zWy_no {h : zHp} {nc nl nt t nk n cap a : Nat} (ha : a < nk) (hno : ∀ p, p < zSz h nc nl nt t nk → zKt h nc nl nt t nk p ≠ a) : zWy h nc nl nt t nk n cap a = 40 := by
  unfold zWy
  cases b : (zMk h nc nl nt t nk).testBit a
  · rfl
  · exact absurd (zpt_at (B := Nat.testBit (zMk h nc nl nt t nk)) b nk ha) (hno _ (zcn_step (p := Nat.testBit (zMk h nc nl nt t nk)) b ha))
theorem e_dayAt {h0 h : zHp} {nc nl nt t nk n cap a : Nat} (hk : nk ≤ 20) (ha : a < nk) (pl : zPl h0 nc nl nt t nk n cap h) : ∀ m p f, p + m = zSz h0 nc nl nt t nk → m < f → (∀ q, q < p → zKt h0 nc nl nt t nk q ≠ a) → s_X8_dayAt_L2 f (nI a) (nI p) h = some (nI (zWy h0 nc nl nt t nk n cap a / 8), h)
  | 0, p, f + 1, hm, hf, no => by
    have s6 := zSz_le h0 nc nl nt t nk
    obtain rfl : p = zSz h0 nc nl nt t nk := by omega
    rw [s_X8_dayAt_L2, pl.2.1, if_pos (nI_le (Nat.le_refl _) (by omega)), zWy_no ha no]
    rfl
  | m + 1, p, f + 1, hm, hf, no => by
    have s6 := zSz_le h0 nc nl nt t nk
    have hp : p < zSz h0 nc nl nt t nk := by omega
    have kl := (zKt_is hp).1
    rw [s_X8_dayAt_L2, pl.2.1, if_neg (nI_ge hp (by omega)), zbs (zriA (show p < 6 by omega) (by decide) h 36), pl.2.2.1 p hp]
    by_cases e : zKt h0 nc nl nt t nk p = a
    · rw [if_pos (by rw [e]), zbs (zriA (show p < 6 by omega) (by decide) h 40), (pl.2.2.2 p hp).1, zWy_hit hp e]
    · rw [if_neg (fun z => e ((nI_eq (by omega) (by omega)).mp z)), nI_1]
      exact e_dayAt hk ha pl m (p + 1) f (by omega) (by omega) (fun q hq => by
        by_cases z : q = p
        · rw [z]; exact e
        · exact no q (by omega))
theorem e_handsAt {h0 h : zHp} {nc nl nt t nk n cap a : Nat} (hk : nk ≤ 20) (ha : a < nk) (pl : zPl h0 nc nl nt t nk n cap h) : ∀ m p f, p + m = zSz h0 nc nl nt t nk → m < f → (∀ q, q < p → zKt h0 nc nl nt t nk q ≠ a) → s_X8_handsAt_L2 f (nI a) (nI p) h = some (nI (zWy h0 nc nl nt t nk n cap a % 8), h)
  | 0, p, f + 1, hm, hf, no => by
    have s6 := zSz_le h0 nc nl nt t nk
    obtain rfl : p = zSz h0 nc nl nt t nk := by omega
    rw [s_X8_handsAt_L2, pl.2.1, if_pos (nI_le (Nat.le_refl _) (by omega)), zWy_no ha no]
    rfl
  | m + 1, p, f + 1, hm, hf, no => by
    have s6 := zSz_le h0 nc nl nt t nk
    have hp : p < zSz h0 nc nl nt t nk := by omega
    have kl := (zKt_is hp).1
    rw [s_X8_handsAt_L2, pl.2.1, if_neg (nI_ge hp (by omega)), zbs (zriA (show p < 6 by omega) (by decide) h 36), pl.2.2.1 p hp]
    by_cases e : zKt h0 nc nl nt t nk p = a
    · rw [if_pos (by rw [e]), zbs (zriA (show p < 6 by omega) (by decide) h 41), (pl.2.2.2 p hp).2, zWy_hit hp e]
    · rw [if_neg (fun z => e ((nI_eq (by omega) (by omega)).mp z)), nI_1]
      exact e_handsAt hk ha pl m (p + 1) f (by omega) (by omega) (fun q hq => by
        by_cases z : q = p
        · rw [z]; exact e
        · exact no q (by omega))

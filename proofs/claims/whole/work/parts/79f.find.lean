/-! ===== rounds: the whole search, and the calls ===== -/
theorem zTm6 : zTm 6 < 2 ^ 40 := by decide +kernel
theorem zTm_mono : ∀ {m m' : Nat}, m ≤ m' → zTm m ≤ zTm m'
  | m, 0, h => by
    obtain rfl : m = 0 := by omega
    exact Nat.le_refl _
  | m, m' + 1, h => by
    by_cases e : m = m' + 1
    · rw [e]; exact Nat.le_refl _
    · have := zTm_mono (show m ≤ m' by omega)
      rw [zTm]
      omega
theorem m_dfs {h0 : zHp} {t nc nk nl nt np n cap : Nat} (hN : zIN h0 t nc nk nl nt np) (hn : n ≤ 3) (hc1 : 1 ≤ cap) (hc9 : cap ≤ 9) (ec : h0.1 67 30 = nI cap) (hP0 : ∀ p, p < (zSz h0 nc nl nt t nk) → ∀ d, d ≤ 5 → (zPp h0 nc nl nt t nk) p 0 ≤ (zPp h0 nc nl nt t nk) p d) : ∀ m i, i + m = (zSz h0 nc nl nt t nk) → zOut h0 nc nl nt t nk n cap m i
  | 0, i, h => m_base (by omega)
  | m + 1, i, hm => by
    have IH := m_dfs hN hn hc1 hc9 ec hP0 m (i + 1) (by omega)
    intro ρ c b h A us h96 h98 hc hb
    have s6 := zSz_le h0 nc nl nt t nk
    have is : i < (zSz h0 nc nl nt t nk) := by omega
    obtain ⟨r, h2, r1, r2, r3, r4, r5, r6, r7⟩ := m_in hN hn hc1 hc9 ec hP0 hm IH (fun j hj => (us j hj).2) hb hc A h98 41 0 (by omega) h (zfrm.rf h) us (fun _ _ => rfl) (fun _ _ => rfl) (fun _ _ => rfl)
    obtain ⟨e1, e2⟩ := zpb_end (P := (zPp h0 nc nl nt t nk)) (N := (zNp h0 nc nl nt t nk)) (F := (zFp h0 nc nl nt t nk n)) (m := m) (i := i) (ρ := ρ) (c := c) (b := b)
    rw [e1] at r2
    rw [e2] at r7
    refine ⟨1 + r, h2, by rw [zTm]; omega, fun f => ?_, r3, r4, r5, r6, ?_⟩
    · rw [show f + (1 + r) = (f + r) + 1 by omega, s_X10_findRounds_L43, if_neg (nI_pos (by omega)), if_neg (fun z => by
        rw [A.2.1] at z
        have := (nI_eq (by omega) (by omega)).mp z
        omega), zbs (zriA (show i < 6 by omega) (by decide) h 96), h96 is, if_pos zm1lt]
      unfold s_X10_findRounds_L134
      rw [zbs (zriA (show i < 6 by omega) (by decide) h 96), h96 is, zbs rfl, show (-1 : Int32) + 1 = nI 0 by decide]
      exact r2 f zFU (zFU_gt (by decide))
    · by_cases d : zimb b (c + zLw (zPp h0 nc nl nt t nk) (zNp h0 nc nl nt t nk) (zFp h0 nc nl nt t nk n) (m + 1) i ρ) = true
      · rw [if_pos d] at r7 ⊢
        refine ⟨r7.1, fun j h1 h2 => ?_⟩
        rw [zgw]
        by_cases e : j = i
        · rw [if_pos e, e]; exact r7.2.1
        · rw [if_neg e]; exact r7.2.2 j (by omega) h2
      · rw [if_neg d] at r7 ⊢
        exact r7
theorem m_clr {h0 : zHp} {nc nl nt t nk : Nat} (a1 : Int32) : ∀ m j f (h : zHp), j + m = 15 → m < f → zAs h0 nc nl nt t nk h → (∀ q, q < j → h.1 99 q = 0) → ∃ h2 : zHp, s_X10_findRounds_L6 f a1 (nI j) h = s_X10_findRounds_L43 zFU a1 (-1) 0 h2 ∧ zAs h0 nc nl nt t nk h2 ∧ (∀ q, q < 15 → h2.1 99 q = 0) ∧ h2.1 98 0 = 0 ∧ h2.1 96 0 = -1
  | 0, j, f + 1, h, hm, hf, A, h99 => by
    obtain rfl : j = 15 := by omega
    refine ⟨zwi (zwi h 98 0 0) 96 0 (-1), ?_, zAs_fr A (fun k k1 k2 k3 k4 => by rw [zwi_ne k k1, zwi_ne k k3]), fun q hq => by rw [zwi_ne 99 (by decide), zwi_ne 99 (by decide)]; exact h99 q hq, by rw [zwi_ne 98 (by decide), zwi_self, pk_us], by rw [zwi_self, pk_us]⟩
    rw [s_X10_findRounds_L6, if_pos (show (15 : Int32) ≤ nI 15 by decide), ← nI_0, zbs (zuiA (show 0 < 7 by decide) (by decide) h 98 _), zbs (zuiA (show 0 < 6 by decide) (by decide) _ 96 _)]
  | m + 1, j, f + 1, h, hm, hf, A, h99 => by
    obtain ⟨g, g1, g2⟩ := m_clr (h0 := h0) (nc := nc) (nl := nl) (nt := nt) (t := t) (nk := nk) a1 m (j + 1) f (zwi h 99 j 0) (by omega) (by omega) (zAs_fr A (fun k k1 k2 k3 k4 => zwi_ne k k4)) (fun q hq => by
      rw [zwi_self]
      by_cases e : q = j
      · subst e; rw [pk_us]
      · rw [pk_un e]; exact h99 q (by omega))
    refine ⟨g, ?_, g2⟩
    rw [s_X10_findRounds_L6, if_neg (show ¬ (15 : Int32) ≤ nI j from nI_ge (b := 15) (by omega) (by decide)), zbs (zuiA (show j < 15 by omega) (by decide) h 99 _), nI_1]
    exact g1
theorem zgr_cmono : ∀ n {a b : Nat}, a ≤ b → zgr n a ≤ zgr n b
  | 0, _, _, h => h
  | n + 1, a, b, h => by
    rw [zgr_add, zgr_add]
    have := zgr_cmono n h
    have := Nat.div_le_div_right (c := 10) this
    omega
theorem zDc_mono {r due a b : Nat} (h : a ≤ b) : zDc r due a ≤ zDc r due b := by
  unfold zDc
  by_cases c : due < a
  · rw [if_pos c, if_pos (by omega)]
    unfold zCost
    exact Nat.le_trans (zgr_mono _ (Nat.div_le_div_right (by omega))) (zgr_cmono _ (Nat.mul_le_mul_left _ (by omega)))
  · rw [if_neg c]; exact Nat.zero_le _
theorem zPp_0 (h : zHp) (nc nl nt t nk p d : Nat) : zPp h nc nl nt t nk p 0 ≤ zPp h nc nl nt t nk p d := by
  unfold zPp zPk zlc
  rw [if_pos (by decide)]
  split
  · exact zDc_mono (by omega)
  · have := zDc_mono (r := zRisk h nc nl nt (zKt h nc nl nt t nk p) (nI t)) (due := zDue h nl (zKt h nc nl nt t nk p) (zRisk h nc nl nt (zKt h nc nl nt t nk p) (nI t)) (nI t)) (show t + 0 ≤ t + 7 by omega)
    omega
/-- the search finds the least and the first -/
theorem m_find {h0 : zHp} {t nc nk nl nt np n cap : Nat} (hN : zIN h0 t nc nk nl nt np) (ht : t + 7 ≤ 1500) (hn : n ≤ 3) (hc1 : 1 ≤ cap) (hc9 : cap ≤ 9) (ec : h0.1 67 30 = nI cap) : ∃ h2 : zHp, s_X10_findRounds (nI n) h0 = some (nI (zLw (zPp h0 nc nl nt t nk) (zNp h0 nc nl nt t nk) (zFp h0 nc nl nt t nk n) (zSz h0 nc nl nt t nk) 0 (fun _ => cap)), h2) ∧ zAs h0 nc nl nt t nk h2 ∧ ∀ p, p < (zSz h0 nc nl nt t nk) → h2.1 97 p = nI (zgw (zPp h0 nc nl nt t nk) (zNp h0 nc nl nt t nk) (zFp h0 nc nl nt t nk n) (zSz h0 nc nl nt t nk) 0 (fun _ => cap) p) := by
  have s6 := zSz_le h0 nc nl nt t nk
  obtain ⟨g, g1, g2⟩ := m_ask hN ht
  obtain ⟨g', k1, k2, k3, k4, k5⟩ := m_clr (h0 := h0) (nc := nc) (nl := nl) (nt := nt) (t := t) (nk := nk) (nI n) 15 0 zFU g (by omega) (zFU_gt (by decide)) g2 (fun q hq => by omega)
  have us : zUs g' cap (fun _ => cap) := fun j hj => ⟨by rw [k3 j hj, Nat.sub_self]; exact nI_0.symm, Nat.le_refl _⟩
  obtain ⟨r, h2, r1, r2, r3⟩ := m_dfs hN hn hc1 hc9 ec (fun p _ d _ => zPp_0 h0 nc nl nt t nk p d) (zSz h0 nc nl nt t nk) 0 (by omega) (fun _ => cap) 0 none g' k2 us (fun _ => k5) (by rw [k4]; exact nI_0.symm) (Nat.zero_le _) (fun u hu => by cases hu)
  obtain ⟨z1, z2, z3, z4, z5⟩ := r3
  have z5 : (∀ j, j < 0 → h2.1 97 j = g'.1 96 j) ∧ ∀ j, 0 ≤ j → j < (zSz h0 nc nl nt t nk) → h2.1 97 j = nI (zgw (zPp h0 nc nl nt t nk) (zNp h0 nc nl nt t nk) (zFp h0 nc nl nt t nk n) (zSz h0 nc nl nt t nk) 0 (fun _ => cap) j) := z5
  have rl : r < 2 ^ 40 := Nat.lt_of_le_of_lt (Nat.le_trans r1 (zTm_mono s6)) zTm6
  refine ⟨h2, ?_, zAs_fr k2 z1, fun p hp => z5.2 p (Nat.zero_le p) hp⟩
  obtain ⟨f, hf⟩ : ∃ f, zFU = (f + 1) + r := ⟨zFU - r - 1, by
    have : zFU = 4611686018427387904 := rfl
    omega⟩
  unfold s_X10_findRounds
  rw [zbs g1]
  rw [nI_0] at k1
  rw [k1]
  have q := r2 (f + 1)
  rw [← hf, show zoi none = -1 from rfl, Nat.zero_add, show zub none (zLw (zPp h0 nc nl nt t nk) (zNp h0 nc nl nt t nk) (zFp h0 nc nl nt t nk n) (zSz h0 nc nl nt t nk) 0 (fun _ => cap)) = some (zLw (zPp h0 nc nl nt t nk) (zNp h0 nc nl nt t nk) (zFp h0 nc nl nt t nk n) (zSz h0 nc nl nt t nk) 0 (fun _ => cap)) from rfl, nI_0] at q
  rw [q, s_X10_findRounds_L43, if_pos (show (0 : Int32) + (-1 : Int32) < 0 by decide)]
  rfl
theorem zmod_same {h h' : zHp} (hs : zSame h h') (nc nl nt t nk n : Nat) : zSz h' nc nl nt t nk = zSz h nc nl nt t nk ∧ zKt h' nc nl nt t nk = zKt h nc nl nt t nk ∧ zPp h' nc nl nt t nk = zPp h nc nl nt t nk ∧ zNp h' nc nl nt t nk = zNp h nc nl nt t nk ∧ zFp h' nc nl nt t nk n = zFp h nc nl nt t nk n := by
  have m := zMk_same hs nc nl nt t nk
  have k : zKt h' nc nl nt t nk = zKt h nc nl nt t nk := by unfold zKt; rw [m]
  refine ⟨by unfold zSz; rw [m], k, ?_, ?_, ?_⟩
  · funext p d
    unfold zPp
    rw [k, zPk_same hs]
  · funext p
    unfold zNp
    rw [k, zNk_same hs]
  · funext p
    unfold zFp
    rw [k, zFk_same hs]
theorem zWy_same {h h' : zHp} (hs : zSame h h') (nc nl nt t nk n cap a : Nat) : zWy h' nc nl nt t nk n cap a = zWy h nc nl nt t nk n cap a := by
  obtain ⟨e1, e2, e3, e4, e5⟩ := zmod_same hs nc nl nt t nk n
  unfold zWy
  rw [zMk_same hs, e1, e3, e4, e5]

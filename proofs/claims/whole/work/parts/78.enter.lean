/-! ===== rounds: which kitchens, and what is entered ===== -/
theorem zsl31 : ∀ n, n < 32 → ((nI n &&& 31).toBitVec.smod 32).toNat = n := by decide +kernel
theorem zbtv {m k : Nat} (hm : m < 2 ^ 31) (hk : k < 32) : ((nI m >>> (nI k &&& 31)) &&& (1 : Int32)) = nI (y3 m k) := by
  rw [pk_shrN hm (nI k &&& 31) k (zsl31 k hk), pk_andN (n := m / 2 ^ k) (Nat.lt_of_le_of_lt (Nat.div_le_self _ _) (by omega)) (m := 1) 1 (by decide)]
  unfold y3
  rw [Nat.testBit_eq_decide_div_mod_eq]
  congr 1
  have : m / 2 ^ k % 2 < 2 := Nat.mod_lt _ (by decide)
  by_cases e : m / 2 ^ k % 2 = 1
  · rw [decide_eq_true e]; simp [e]
  · rw [decide_eq_false e]; simp; omega
theorem zbt0 {m k : Nat} (hm : m < 2 ^ 31) (hk : k < 32) : ((nI m >>> (nI k &&& 31)) &&& (1 : Int32)) = 0 ↔ m.testBit k = false := by
  rw [zbtv hm hk]
  unfold y3
  cases m.testBit k
  · simp; rfl
  · simp; decide
theorem zbt1 {m k : Nat} (hm : m < 2 ^ 31) (hk : k < 32) : ((nI m >>> (nI k &&& 31)) &&& (1 : Int32)) = 1 ↔ m.testBit k = true := by
  rw [zbtv hm hk]
  unfold y3
  cases m.testBit k
  · simp; decide
  · simp; rfl
def zdv (c : Nat → Nat) : Option Nat → Nat
  | none => 0
  | some j => c j
def zdb (c : Nat → Nat) (m : Nat) : Nat → Option Nat
  | 0 => none
  | k + 1 => if m.testBit k = false ∧ zdv c (zdb c m k) < c k then some k else zdb c m k
def zch (c : Nat → Nat) (K : Nat) : Nat → Nat
  | 0 => 0
  | r + 1 => match zdb c (zch c K r) K with
    | none => zch c K r
    | some k => zch c K r ||| 2 ^ k
theorem zdb_lt {c : Nat → Nat} {m : Nat} : ∀ K k, zdb c m K = some k → k < K ∧ m.testBit k = false ∧ 0 < c k
  | 0, k, h => by cases h
  | K + 1, k, h => by
    rw [zdb] at h
    by_cases z : m.testBit K = false ∧ zdv c (zdb c m K) < c K
    · rw [if_pos z] at h
      obtain rfl := Option.some.inj h
      exact ⟨by omega, z.1, by omega⟩
    · rw [if_neg z] at h
      obtain ⟨a, b⟩ := zdb_lt K k h
      exact ⟨by omega, b⟩
theorem zch_lt {c : Nat → Nat} {K : Nat} : ∀ r, zch c K r < 2 ^ K
  | 0 => Nat.two_pow_pos K
  | r + 1 => by
    rw [zch]
    cases e : zdb c (zch c K r) K with
    | none => exact zch_lt r
    | some k => exact Nat.or_lt_two_pow (zch_lt r) (Nat.pow_lt_pow_right (by decide) (zdb_lt K k e).1)
theorem zcn_or {m k : Nat} : ∀ K, zcn (Nat.testBit (m ||| 2 ^ k)) K ≤ zcn (Nat.testBit m) K + (if k < K then 1 else 0)
  | 0 => by simp [zcn]
  | K + 1 => by
    have ih := zcn_or (m := m) (k := k) K
    rw [zcn, zcn, Nat.testBit_or, Nat.testBit_two_pow]
    by_cases e : k = K
    · subst e
      rw [if_neg (Nat.lt_irrefl k)] at ih
      rw [if_pos (Nat.lt_succ_self k)]
      split <;> omega
    · rw [decide_eq_false e, Bool.or_false]
      by_cases l : k < K
      · rw [if_pos l] at ih; rw [if_pos (show k < K + 1 by omega)]; omega
      · rw [if_neg l] at ih; rw [if_neg (show ¬ k < K + 1 by omega)]; omega
theorem zcn_zero : ∀ K, zcn (Nat.testBit 0) K = 0
  | 0 => rfl
  | K + 1 => by rw [zcn, zcn_zero K, Nat.zero_testBit]; rfl
theorem zch_cn {c : Nat → Nat} {K : Nat} : ∀ r, zcn (Nat.testBit (zch c K r)) K ≤ r
  | 0 => by rw [zch, zcn_zero]; exact Nat.le_refl 0
  | r + 1 => by
    have ih := zch_cn (c := c) (K := K) r
    rw [zch]
    cases e : zdb c (zch c K r) K with
    | none => dsimp only; omega
    | some k =>
      dsimp only
      have := zcn_or (m := zch c K r) (k := k) K
      split at this <;> omega
/-- the kitchen at a place -/
def zpt (B : Nat → Bool) : Nat → Nat → Nat
  | 0 => fun _ => 0
  | k + 1 => if B k then znp (zpt B k) (zcn B k) k else zpt B k
theorem zpt_is {B : Nat → Bool} : ∀ K p, p < zcn B K → zpt B K p < K ∧ B (zpt B K p) = true ∧ zcn B (zpt B K p) = p
  | 0, p, h => by simp [zcn] at h
  | K + 1, p, h => by
    rw [zcn] at h
    rw [zpt]
    cases e : B K
    · rw [e] at h
      simp only [Bool.false_eq_true, reduceIte] at h ⊢
      obtain ⟨a, b, c⟩ := zpt_is K p (by omega)
      exact ⟨by omega, b, c⟩
    · rw [e] at h
      simp only [reduceIte] at h ⊢
      unfold znp
      by_cases z : p = zcn B K
      · rw [if_pos z]; exact ⟨by omega, e, z.symm⟩
      · rw [if_neg z]
        obtain ⟨a, b, c⟩ := zpt_is (B := B) K p (by omega)
        exact ⟨by omega, b, c⟩
/-- the cost of a kitchen so many days from now -/
def zlc (h : zHp) (nc nl nt t k d : Nat) : Nat := zDc (zRisk h nc nl nt k (nI t)) (zDue h nl k (zRisk h nc nl nt k (nI t)) (nI t)) (t + d)
theorem zlc_same {h h' : zHp} (hs : zSame h h') (nc nl nt t k d : Nat) : zlc h' nc nl nt t k d = zlc h nc nl nt t k d := by
  unfold zlc
  rw [zRisk_same hs, zDue_same hs]
theorem zlc_le {h : zHp} {t nc nk nl nt np k d : Nat} (hN : zIN h t nc nk nl nt np) (hk : k < nk) (hd : d ≤ 7) : zlc h nc nl nt t k d ≤ 20000000 := by
  have := hN.1.2.2
  exact zDc_le (zRisk_rng hN hk).2 (by omega)
def zPk (h : zHp) (nc nl nt t k d : Nat) : Nat := if d < 5 then zlc h nc nl nt t k d else 2 * zlc h nc nl nt t k 7
def zNk (h : zHp) (k : Nat) : Nat := if h.1 20 k = 0 then 1 else 2
def zfr (h : zHp) (o : Nat) : Nat → Nat
  | 0 => 0
  | a + 1 => if h.1 2 (a * 10 + o) = 0 then zfr h o a ||| 2 ^ a else zfr h o a
def zFk (h : zHp) (n k : Nat) : Nat := zfr h (h.1 17 k).toNatClampNeg n
theorem zfr_lt (h : zHp) (o : Nat) : ∀ n, zfr h o n < 2 ^ n
  | 0 => Nat.zero_lt_one
  | n + 1 => by
    have ih := zfr_lt h o n
    have p : 2 ^ n < 2 ^ (n + 1) := Nat.pow_lt_pow_right (by decide) (by omega)
    rw [zfr]
    split
    · exact Nat.or_lt_two_pow (by omega) p
    · omega
theorem zfr_same {h h' : zHp} (hs : zSame h h') (o : Nat) : ∀ n, zfr h' o n = zfr h o n
  | 0 => rfl
  | n + 1 => by rw [zfr, zfr, zfr_same hs o n, hs.1 2 (by decide)]
theorem zFk_same {h h' : zHp} (hs : zSame h h') (n k : Nat) : zFk h' n k = zFk h n k := by
  unfold zFk
  rw [hs.1 17 (by decide), zfr_same hs]
theorem zNk_same {h h' : zHp} (hs : zSame h h') (k : Nat) : zNk h' k = zNk h k := by
  unfold zNk
  rw [hs.1 20 (by decide)]
theorem zPk_same {h h' : zHp} (hs : zSame h h') (nc nl nt t k d : Nat) : zPk h' nc nl nt t k d = zPk h nc nl nt t k d := by
  unfold zPk
  rw [zlc_same hs, zlc_same hs]
/-! the class chooses -/
theorem e_db {h : zHp} {nk M : Nat} (hk : nk ≤ 20) (h13 : h.1 13 10 = nI nk) (hM : M < 2 ^ 20) {c : Nat → Nat} (hc : ∀ k, k < nk → h.1 4 k = nI (c k) ∧ c k ≤ 20000000) : ∀ m k f, k + m = nk → m < f → s_X9_dearestBeside_L7 f (nI M) (zoi (zdb c M k)) (nI (zdv c (zdb c M k))) (nI k) h = some (zoi (zdb c M nk), h)
  | 0, k, f + 1, hm, hf => by
    obtain rfl : k = nk := by omega
    simp only [s_X9_dearestBeside_L7, s_X4_size, h13, Option.bind_some, nI_le (Nat.le_refl k) (show k < 2 ^ 31 by omega), reduceIte]
  | m + 1, k, f + 1, hm, hf => by
    have ih := e_db hk h13 hM hc m (k + 1) f (by omega) (by omega)
    obtain ⟨c1, c2⟩ := hc k (by omega)
    have vB : zdv c (zdb c M k) ≤ 20000000 := by
      cases e : zdb c M k with
      | none => exact Nat.zero_le _
      | some j => exact (hc j (by have := (zdb_lt k j e).1; omega)).2
    rw [s_X9_dearestBeside_L7]
    unfold s_X4_size s_X9_dearestBeside_L50
    rw [zbs rfl, h13, if_neg (nI_ge (show k < nk by omega) (by omega))]
    rw [zdb] at ih
    cases b : M.testBit k
    · rw [if_pos ((zbt0 (by omega) (by omega)).mpr b), zbs (zriA (show k < 20 by omega) (by decide) h 4), c1]
      by_cases z : zdv c (zdb c M k) < c k
      · rw [if_neg (nI_ge z (by omega)), zbs (zriA (show k < 20 by omega) (by decide) h 4), c1, nI_1]
        rw [if_pos ⟨b, z⟩] at ih
        exact ih
      · rw [if_pos (nI_le (show c k ≤ zdv c (zdb c M k) by omega) (by omega)), nI_1]
        rw [if_neg (fun y => z y.2)] at ih
        exact ih
    · rw [if_neg (fun z => by rw [zbt0 (by omega) (by omega), b] at z; cases z), nI_1]
      rw [if_neg (fun y => by rw [b] at y; cases y.1)] at ih
      exact ih
theorem e_ch {h : zHp} {nk : Nat} (hk : nk ≤ 20) (h13 : h.1 13 10 = nI nk) {c : Nat → Nat} (hc : ∀ k, k < nk → h.1 4 k = nI (c k) ∧ c k ≤ 20000000) : ∀ m r f, r + m = 6 → m < f → s_X9_dearestToLeave_L52 f (nI (zch c nk r)) (nI r) h = some (nI (zch c nk 6), h)
  | 0, r, f + 1, hm, hf => by
    obtain rfl : r = 6 := by omega
    simp only [s_X9_dearestToLeave_L52, show (6 : Int32) ≤ nI 6 from by decide, reduceIte]
  | m + 1, r, f + 1, hm, hf => by
    have ih := e_ch hk h13 hc m (r + 1) f (by omega) (by omega)
    have ml := zch_lt (c := c) (K := nk) r
    have p20 : 2 ^ nk ≤ 2 ^ 20 := Nat.pow_le_pow_right (by decide) hk
    have q := e_db hk h13 (M := zch c nk r) (by omega) hc nk 0 zFU (by omega) (zFU_gt (by omega))
    rw [show zoi (zdb c (zch c nk r) 0) = -1 from rfl, show zdv c (zdb c (zch c nk r) 0) = 0 from rfl, nI_0] at q
    rw [s_X9_dearestToLeave_L52, if_neg (show ¬ (6 : Int32) ≤ nI r from nI_ge (b := 6) (by omega) (by decide))]
    unfold s_X9_dearestBeside s_X9_dearestToLeave_L74
    rw [q, zbs rfl]
    rw [zch] at ih
    cases e : zdb c (zch c nk r) nk with
    | none =>
      rw [e] at ih
      rw [if_pos (show zoi none < 0 from zm1lt), nI_1]
      exact ih
    | some k =>
      rw [e] at ih
      have kl := (zdb_lt nk k e).1
      rw [if_neg (show ¬ zoi (some k) < 0 from nI_pos (by omega)), zbs rfl, show zoi (some k) = nI k from rfl, zsh1 k (by omega), zx_or, nI_1]
      exact ih
theorem e_late {h : zHp} {t nc nk nl nt np : Nat} (hN : zIN h t nc nk nl nt np) (ht : t + 7 ≤ 1500) : ∀ m k f (h1 : zHp), k + m = nk → m < f → zSame h h1 → (∀ j, j < k → h1.1 4 j = nI (zlc h nc nl nt t j 7)) → ∃ h2 : zHp, s_X9_dearestToLeave_L2 f (nI k) h1 = some (nI (zch (fun j => zlc h nc nl nt t j 7) nk 6), h2) ∧ zSame h h2 ∧ (∀ j, j < nk → h2.1 4 j = nI (zlc h nc nl nt t j 7))
  | 0, k, f + 1, h1, hm, hf, hs, h4 => by
    obtain rfl : k = nk := by omega
    obtain ⟨-, -, ⟨⟨k1, k2, k3⟩, -⟩, -⟩ := zIN_same hs hN
    refine ⟨h1, ?_, hs, h4⟩
    have q := e_ch k3 k1 (c := fun j => zlc h nc nl nt t j 7) (fun j hj => ⟨h4 j hj, zlc_le hN hj (Nat.le_refl 7)⟩) 6 0 zFU (by omega) (zFU_gt (by decide))
    rw [show zch (fun j => zlc h nc nl nt t j 7) k 0 = 0 from rfl, nI_0] at q
    simp only [s_X9_dearestToLeave_L2, s_X4_size, k1, Option.bind_some, nI_le (Nat.le_refl k) (show k < 2 ^ 31 by omega), reduceIte]
    exact q
  | m + 1, k, f + 1, h1, hm, hf, hs, h4 => by
    have hN1 := zIN_same hs hN
    obtain ⟨⟨d1, d2, d3⟩, -, ⟨⟨k1, k2, k3⟩, -⟩, -⟩ := id hN1
    have hk : k < nk := by omega
    obtain ⟨g, g1, g2⟩ := e_riskQ hN1 hk
    obtain ⟨r1, r2⟩ := zRisk_rng hN hk
    rw [zRisk_same hs] at g1
    have sg : zSame h g := hs.tr (g2.same (by decide) (by decide))
    have hNg := zIN_same sg hN
    have q2 := e_due (i := k) hNg r1 r2
    rw [zDue_same sg] at q2
    have dl := zDue_le (i := k) hN r1
    have q3 := e_dcost (h := g) r2 dl (show t + 7 ≤ 1507 by omega)
    obtain ⟨h2, l1, l2, l3⟩ := e_late hN ht m (k + 1) f (zwi g 4 k (nI (zlc h nc nl nt t k 7))) (by omega) (by omega) (sg.wi 4 k _ (by decide) (Or.inl (by decide))) (fun j hj => by
      rw [zwi_self]
      by_cases e : j = k
      · subst e; rw [pk_us]
      · rw [pk_un e, g2.1 4 (by decide)]; exact h4 j (by omega))
    refine ⟨h2, ?_, l2, l3⟩
    rw [s_X9_dearestToLeave_L2]
    unfold s_X4_size
    rw [zbs rfl, k1, if_neg (nI_ge hk (by omega)), zbs g1, zbs q2, hNg.1.1, show (7 : Int32) = nI 7 from by decide, nI_add, zbs q3, zbs (zuiA (show k < 20 by omega) (by decide) g 4 _), nI_1]
    exact l1
/-! and enters them -/
theorem e_hf {h : zHp} {o n : Nat} (ho : o < 10) (hn : n ≤ 3) (h2 : ∀ i, h.1 2 i = 0 ∨ h.1 2 i = 1) : ∀ m a f, a + m = n → m < f → s_X9_handsFree_L5 f (nI o) (nI n) (nI (zfr h o a)) (nI a) h = some (nI (zfr h o n), h)
  | 0, a, f + 1, hm, hf => by
    obtain rfl : a = n := by omega
    simp only [s_X9_handsFree_L5, s_X9_handsFree_L40, nI_le (Nat.le_refl a) (show a < 2 ^ 31 by omega), reduceIte]
  | m + 1, a, f + 1, hm, hf => by
    have ih := e_hf ho hn h2 m (a + 1) f (by omega) (by omega)
    rw [s_X9_handsFree_L5, if_neg (nI_ge (show a < n by omega) (by omega)), if_neg (z5le (show a < 5 by omega)), zbs (e_isKinR (show a * 10 + o < 50 by omega) h2)]
    unfold s_X9_handsFree_L34
    rw [zfr] at ih
    by_cases c : h.1 2 (a * 10 + o) = 0
    · rw [if_pos c] at ih
      rw [if_pos c, zbs rfl, zsh1 a (by omega), zx_or, nI_1]
      exact ih
    · rw [if_neg c] at ih
      rw [if_neg c, nI_1]
      exact ih
theorem e_ew1 {h0 : zHp} {t nc nk nl nt np k p : Nat} (hN : zIN h0 t nc nk nl nt np) (ht : t + 7 ≤ 1500) (hk : k < nk) (hp : p < 6) : ∀ m d f (h : zHp), d + m = 5 → m < f → zSame h0 h → h.1 4 k = nI (zlc h0 nc nl nt t k 7) → (∀ e, e < d → h.1 39 (6 * p + e) = nI (zPk h0 nc nl nt t k e)) → ∃ h2 : zHp, s_X9_enterWeek_L60 f (nI k) (nI (zRisk h0 nc nl nt k (nI t))) (nI (zDue h0 nl k (zRisk h0 nc nl nt k (nI t)) (nI t))) (nI p) (nI d) h = some h2 ∧ zbut 39 h h2 ∧ (∀ e, e ≤ 5 → h2.1 39 (6 * p + e) = nI (zPk h0 nc nl nt t k e)) ∧ (∀ j, j < 6 * p → h2.1 39 j = h.1 39 j)
  | 0, d, f + 1, h, hm, hf, hs, h4, h39 => by
    obtain rfl : d = 5 := by omega
    have k3 := hN.2.2.1.1.2.2
    refine ⟨zwi h 39 (6 * p + 5) (nI (2 * zlc h0 nc nl nt t k 7)), ?_, (zbut.rf 39 h).wi _ _, fun e he => ?_, fun j hj => by rw [zwi_self, pk_un (by omega)]⟩
    · rw [s_X9_enterWeek_L60, if_pos z55, zbs (zriA (show k < 20 by omega) (by decide) h 4), h4]
      unfold s_X8_setPrice
      rw [show (5 : Int32) = nI 5 from by decide, zix6, show (2 : Int32) = nI 2 from by decide, pk_mul, zuiA (show 6 * p + 5 < 36 by omega) (by decide) h 39 _]
      rfl
    · rw [zwi_self]
      by_cases z : e = 5
      · subst z; rw [pk_us]; rfl
      · rw [pk_un (by omega)]; exact h39 e (by omega)
  | m + 1, d, f + 1, h, hm, hf, hs, h4, h39 => by
    have r := zRisk_rng hN hk
    have dl := zDue_le (i := k) hN r.1
    have d1 := (zIN_same hs hN).1.1
    have q := e_dcost (h := h) r.2 dl (show t + d ≤ 1507 by omega)
    obtain ⟨g, g1, g2, g3, g4⟩ := e_ew1 (p := p) hN ht hk hp m (d + 1) f (zwi h 39 (6 * p + d) (nI (zlc h0 nc nl nt t k d))) (by omega) (by omega) (hs.wi 39 _ _ (by decide) (Or.inl (by decide))) (by rw [zwi_ne 4 (by decide)]; exact h4) (fun e he => by
      rw [zwi_self]
      by_cases z : e = d
      · subst z; rw [pk_us]; unfold zPk; rw [if_pos (by omega)]
      · rw [pk_un (by omega)]; exact h39 e (by omega))
    refine ⟨g, ?_, ((zbut.rf 39 h).wi _ _).tr g2, g3, fun j hj => by rw [g4 j hj, zwi_self, pk_un (by omega)]⟩
    rw [s_X9_enterWeek_L60, if_neg (z5le (show d < 5 by omega)), d1, nI_add, zbs q]
    unfold s_X8_setPrice
    rw [zix6, zuiA (show 6 * p + d < 36 by omega) (by decide) h 39 _, nI_1]
    exact g1
/-- what stands when the kitchens below k are entered -/
def zEw (h0 : zHp) (nc nl nt t nk n cap : Nat) (B : Nat → Bool) (k : Nat) (h : zHp) : Prop := zSame h0 h ∧ (∀ j, j < nk → h.1 4 j = nI (zlc h0 nc nl nt t j 7)) ∧ h.1 35 10 = nI (zcn B k) ∧ h.1 35 11 = nI (2 ^ n) ∧ (∀ j, j < 15 → h.1 42 j = nI cap) ∧ ∀ p, p < zcn B k → h.1 36 p = nI (zpt B k p) ∧ h.1 37 p = nI (zNk h0 (zpt B k p)) ∧ h.1 38 p = nI (zFk h0 n (zpt B k p)) ∧ ∀ d, d ≤ 5 → h.1 39 (6 * p + d) = nI (zPk h0 nc nl nt t (zpt B k p) d)
theorem e_ew {h0 h : zHp} {t nc nk nl nt np n cap k : Nat} {B : Nat → Bool} (hN : zIN h0 t nc nk nl nt np) (ht : t + 7 ≤ 1500) (hn : n ≤ 3) (hk : k < nk) (hB : B k = true) (h6 : zcn B k < 6) (E : zEw h0 nc nl nt t nk n cap B k h) : ∃ h2 : zHp, s_X9_enterWeek (nI k) (nI n) h = some h2 ∧ zEw h0 nc nl nt t nk n cap B (k + 1) h2 := by
  obtain ⟨hs, e4, e10, e11, e42, ep⟩ := E
  have hN1 := zIN_same hs hN
  obtain ⟨⟨d1, d2, d3⟩, -, ⟨⟨k1, k2, k3⟩, -, ky, y2⟩, -, ⟨-, -, x3, -⟩, -⟩ := id hN1
  obtain ⟨g, g1, g2⟩ := e_riskQ hN1 hk
  obtain ⟨r1, r2⟩ := zRisk_rng hN hk
  rw [zRisk_same hs] at g1
  have sg : zSame h0 g := hs.tr (g2.same (by decide) (by decide))
  have hNg := zIN_same sg hN
  have q2 := e_due (i := k) hNg r1 r2
  rw [zDue_same sg] at q2
  have y2g := hNg.2.2.1.2.2.2
  have x3g := hNg.2.2.2.2.1.2.2.1
  obtain ⟨-, -, -, ⟨o, o1, o2⟩, -⟩ := hNg.2.2.1.2.2.1 k hk
  have fko : zFk h0 n k = zfr g o n := by
    rw [← zFk_same sg]
    unfold zFk
    rw [o2, nI_clamp (by omega)]
  have w3 : s_X4_isHard (nI k) g = some (g.1 20 k, g) := by
    unfold s_X4_isHard
    rw [zbs (zriA (show k < 20 by omega) (by decide) g 20), zbs (znar01 (y2g k)).2]
  have nke : zNk h0 k = if g.1 20 k = 0 then 1 else 2 := by rw [← zNk_same sg]; rfl
  have hf := e_hf (h := g) o1 hn x3g n 0 zFU (by omega) (zFU_gt (by omega))
  rw [show zfr g o 0 = 0 from rfl, nI_0] at hf
  have ow : s_X4_ownerOf (nI k) g = some (nI o, g) := by
    unfold s_X4_ownerOf
    rw [zbs (zriA (show k < 20 by omega) (by decide) g 17), o2]
  have hfr : s_X9_handsFree (nI o) (nI n) g = some (nI (zfr g o n), g) := by
    unfold s_X9_handsFree
    exact hf
  have L30 : ∀ b, nI (zNk h0 k) = b → ∃ h2 : zHp, s_X9_enterWeek_L30 (nI k) (nI n) (nI (zRisk h0 nc nl nt k (nI t))) (nI (zDue h0 nl k (zRisk h0 nc nl nt k (nI t)) (nI t))) b g = some h2 ∧ zEw h0 nc nl nt t nk n cap B (k + 1) h2 := fun b hb => by
    have sz : g.1 35 10 = nI (zcn B k) := by rw [g2.1 35 (by decide)]; exact e10
    generalize hG : zwi (zwi (zwi (zwi g 36 (zcn B k) (nI k)) 37 (zcn B k) b) 38 (zcn B k) (nI (zfr g o n))) 35 10 (nI (zcn B k + 1)) = G
    have add : s_X8_add (nI k) b (nI (zfr g o n)) g = some (nI (zcn B k), G) := by
      unfold s_X8_add
      rw [sz, show (5 : Int32) = nI 5 from by decide, zbs (e_min (by omega) (by decide)), show min (zcn B k) 5 = zcn B k by omega, zbs (zuiA h6 (by decide) g 36 _), zbs (zuiA h6 (by decide) _ 37 _), zbs (zuiA h6 (by decide) _ 38 _), zbs rfl, nI_1, ← hG]
      rfl
    have sG : zSame h0 G := by
      rw [← hG]
      exact (((sg.wi 36 _ _ (by decide) (Or.inl (by decide))).wi 37 _ _ (by decide) (Or.inl (by decide))).wi 38 _ _ (by decide) (Or.inl (by decide))).wi 35 _ _ (by decide) (Or.inl (by decide))
    have c36 : G.1 36 = upd (h.1 36) (zcn B k) (nI k) := by
      rw [← hG, zwi_ne 36 (by decide), zwi_ne 36 (by decide), zwi_ne 36 (by decide), zwi_self, g2.1 36 (by decide)]
    have c37 : G.1 37 = upd (h.1 37) (zcn B k) b := by
      rw [← hG, zwi_ne 37 (by decide), zwi_ne 37 (by decide), zwi_self, zwi_ne 37 (by decide), g2.1 37 (by decide)]
    have c38 : G.1 38 = upd (h.1 38) (zcn B k) (nI (zfr g o n)) := by
      rw [← hG, zwi_ne 38 (by decide), zwi_self, zwi_ne 38 (by decide), zwi_ne 38 (by decide), g2.1 38 (by decide)]
    have c35 : G.1 35 = upd (h.1 35) 10 (nI (zcn B k + 1)) := by
      rw [← hG, zwi_self, zwi_ne 35 (by decide), zwi_ne 35 (by decide), zwi_ne 35 (by decide), g2.1 35 (by decide)]
    have co : ∀ c, c ≠ 31 → c ≠ 35 → c ≠ 36 → c ≠ 37 → c ≠ 38 → G.1 c = h.1 c := fun c x1 x2 x3 x4 x5 => by
      rw [← hG, zwi_ne c x2, zwi_ne c x5, zwi_ne c x4, zwi_ne c x3, g2.1 c x1]
    obtain ⟨g', l1, l2, l3, l4⟩ := e_ew1 (p := zcn B k) hN ht hk h6 5 0 zFU G (by omega) (zFU_gt (by decide)) sG (by rw [co 4 (by decide) (by decide) (by decide) (by decide) (by decide)]; exact e4 k hk) (fun e he => by omega)
    have cB : zcn B (k + 1) = zcn B k + 1 := by rw [zcn, hB]; rfl
    have pB : zpt B (k + 1) = znp (zpt B k) (zcn B k) k := by rw [zpt, hB]; rfl
    refine ⟨g', ?_, sG.tr (l2.same (by decide) (by decide)), fun j hj => ?_, ?_, ?_, fun j hj => ?_, fun p hp => ?_⟩
    · rw [nI_0] at l1
      unfold s_X9_enterWeek_L30
      rw [zbs ow, zbs hfr, zbs add]
      exact l1
    · rw [l2.1 4 (by decide), co 4 (by decide) (by decide) (by decide) (by decide) (by decide)]; exact e4 j hj
    · rw [l2.1 35 (by decide), c35, pk_us, cB]
    · rw [l2.1 35 (by decide), c35, pk_un (by decide)]; exact e11
    · rw [l2.1 42 (by decide), co 42 (by decide) (by decide) (by decide) (by decide) (by decide)]; exact e42 j hj
    · rw [cB] at hp
      rw [l2.1 36 (by decide), l2.1 37 (by decide), l2.1 38 (by decide), c36, c37, c38, pB]
      unfold znp
      by_cases e : p = zcn B k
      · subst e
        rw [if_pos rfl, pk_us, pk_us, pk_us]
        exact ⟨rfl, hb.symm, by rw [fko], fun d hd => l3 d hd⟩
      · obtain ⟨a1, a2, a3, a4⟩ := ep p (by omega)
        rw [if_neg e, pk_un e, pk_un e, pk_un e]
        exact ⟨a1, a2, a3, fun d hd => by
          rw [l4 _ (by omega), co 39 (by decide) (by decide) (by decide) (by decide) (by decide)]; exact a4 d hd⟩
  unfold s_X9_enterWeek
  rw [zbs g1, zbs q2, zbs w3]
  by_cases c : g.1 20 k = 0
  · rw [if_pos c]
    exact L30 1 (by rw [nke, if_pos c]; rfl)
  · rw [if_neg c]
    exact L30 2 (by rw [nke, if_neg c]; rfl)

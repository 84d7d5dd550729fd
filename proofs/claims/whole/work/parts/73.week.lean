/-! ===== rounds: the tables of the class ===== -/
theorem zsh1 : ∀ p, p < 30 → (1 : Int32) <<< (nI p &&& 31) = nI (2 ^ p) := by decide +kernel
theorem zp2 {i : Nat} (h : i ≤ 6) : 2 ^ i ≤ 64 := Nat.pow_le_pow_right (n := 2) (by decide) h
theorem zp23 {i : Nat} (h : i ≤ 3) : 2 ^ i ≤ 8 := Nat.pow_le_pow_right (n := 2) (by decide) h
theorem w_bc (a : Nat) (ha : a < 8) (h : zHp) : s_J6_bitCount_0f7a4 (nI a) h = some (nI (zpc a), h) := by
  have key : ∀ a, a < 8 → (s_J6_bitCount_0f7a4 (nI a) zh0).map Prod.fst = some (nI (zpc a)) := by decide +kernel
  have := key a ha
  unfold s_J6_bitCount_0f7a4 at this ⊢
  simp only [Option.bind_some, Option.map_some] at this ⊢
  rw [Option.some_inj.mp this]
theorem w_cmp : ∀ f, f < 8 → ∀ H, H < 8 → nI f &&& (nI H ^^^ (-1 : Int32)) = nI (f &&& (7 ^^^ H)) ∧ f &&& (7 ^^^ H) < 8 := by decide +kernel
theorem w_max : ∀ N, N < 3 → ∀ p, p < 4 → (if (0 : Int32) < nI N - nI p then nI N - nI p else 0) = nI (N - p) := by decide +kernel
theorem zpc_lt : ∀ a, a < 8 → zpc a < 4 := by decide +kernel
theorem zpd_lt {f H : Nat} (hf : f < 8) (hH : H < 8) : zpd f H < 4 := zpc_lt _ (w_cmp f hf H hH).2
/-- one place more in a set -/
theorem zbit_add {M p : Nat} (hM : M < 2 ^ p) (i : Nat) : (2 ^ p + M).testBit i = (M.testBit i || decide (i = p)) := by
  by_cases e : i = p
  · subst e
    rw [Nat.testBit_two_pow_add_eq, Nat.testBit_lt_two_pow hM]
    simp
  · by_cases l : i < p
    · rw [Nat.testBit_two_pow_add_gt l, decide_eq_false e, Bool.or_false]
    · have h1 : 2 ^ p * 2 ≤ 2 ^ i := by rw [← Nat.pow_succ]; exact Nat.pow_le_pow_right (by decide) (by omega)
      rw [Nat.testBit_lt_two_pow (show 2 ^ p + M < 2 ^ i by omega), Nat.testBit_lt_two_pow (show M < 2 ^ i by omega), decide_eq_false e]
      rfl
theorem zsS_bit {g : Nat → Nat} {M p s : Nat} (hM : M < 2 ^ p) (hp : p < s) : zsS g (Nat.testBit (2 ^ p + M)) s = zsS g (Nat.testBit M) s + g p := by
  rw [zsS_part (g := g) (T := Nat.testBit M) (R := fun i => decide (i = p)) s (fun i _ => zbit_add hM i) (fun i _ h => by
    refine decide_eq_false (fun z => ?_)
    rw [z, Nat.testBit_lt_two_pow hM] at h
    cases h)]
  congr 1
  have one : ∀ s, p < s → zsS g (fun i => decide (i = p)) s = g p := fun s => by
    induction s with
    | zero => intro h; omega
    | succ s ih =>
      intro h
      rw [zsS]
      by_cases e : p = s
      · subst e
        rw [zsS_none p (fun i hi => decide_eq_false (by omega))]
        simp
      · rw [ih (by omega)]
        simp [show ¬ s = p from fun z => e z.symm]
  exact one s hp
theorem zsS_zero {g : Nat → Nat} {s : Nat} : zsS g (Nat.testBit 0) s = 0 := zsS_none s (fun i _ => Nat.zero_testBit i)
/-- what is entered for a week -/
def zWk (h : zHp) (s n : Nat) (P : Nat → Nat → Nat) (N F : Nat → Nat) : Prop := (h.1 35 10 = nI s ∧ s ≤ 6) ∧ (h.1 35 11 = nI (2 ^ n) ∧ n ≤ 3) ∧ (∀ i, i < s → h.1 37 i = nI (N i) ∧ h.1 38 i = nI (F i) ∧ (N i = 1 ∨ N i = 2) ∧ F i < 2 ^ n) ∧ (∀ i, i < s → ∀ d, d ≤ 5 → h.1 39 (6 * i + d) = nI (P i d) ∧ P i d ≤ 40000000)
theorem zWk_keep {h h' : zHp} {s n : Nat} {P : Nat → Nat → Nat} {N F : Nat → Nat} (w : zWk h s n P N F) (e35 : h'.1 35 = h.1 35) (e37 : h'.1 37 = h.1 37) (e38 : h'.1 38 = h.1 38) (e39 : h'.1 39 = h.1 39) : zWk h' s n P N F := by
  unfold zWk
  rw [e35, e37, e38, e39]
  exact w
def zRo (h : zHp) (ρ : Nat → Nat) : Prop := ∀ j, j < 15 → h.1 42 j = nI (ρ j) ∧ ρ j ≤ 9
def zBo (h : zHp) (s n : Nat) (N F : Nat → Nat) : Prop := ∀ H, H < 2 ^ n → ∀ M, M < 2 ^ s → h.1 43 (64 * H + M) = nI (zbd N F (Nat.testBit M) s H)
/-- the cells that are the same but for one -/
def zbut (c : Nat) (h h' : zHp) : Prop := (∀ k, k ≠ c → h'.1 k = h.1 k) ∧ h'.2 = h.2
theorem zbut.rf (c : Nat) (h : zHp) : zbut c h h := ⟨fun _ _ => rfl, rfl⟩
theorem zbut.tr {c : Nat} {a b d : zHp} (h1 : zbut c a b) (h2 : zbut c b d) : zbut c a d := ⟨fun k hk => (h2.1 k hk).trans (h1.1 k hk), h2.2.trans h1.2⟩
theorem zbut.wi {c : Nat} {h h' : zHp} (b : zbut c h h') (i : Nat) (x : Int32) : zbut c h (zwi h' c i x) := ⟨fun k hk => by rw [zwi_ne k hk]; exact b.1 k hk, b.2⟩
theorem zix64 {a : Nat} : nI a * (64 : Int32) = nI (64 * a) := by
  have e : (64 : Int32) = nI 64 := by decide
  rw [e, pk_mul, Nat.mul_comm]
theorem e_fb1 (k2 : Int32 → zHp → Option zHp) (k24 : Int32 → Int32 → Int32 → zHp → Option zHp) {H p s v : Nat} (hH : H < 8) (hp : p < s) (hs : s ≤ 6) {b : Nat → Nat} : ∀ m j f (h : zHp), j + m = 2 ^ p → m < f → (∀ M, M < 2 ^ p → h.1 43 (64 * H + M) = nI (b M)) → (∀ M, M < j → h.1 43 (64 * H + (2 ^ p + M)) = nI (b M + v)) → ∃ h2 : zHp, s_X8_fillBound_L70 k2 k24 f (nI H) (nI (64 * H)) (nI p) (nI v) (nI (2 ^ p)) (nI j) h = k24 (nI H) (nI (64 * H)) (nI (p + 1)) h2 ∧ zbut 43 h h2 ∧ (∀ q, q < 64 * H → h2.1 43 q = h.1 43 q) ∧ (∀ M, M < 2 ^ p → h2.1 43 (64 * H + M) = nI (b M)) ∧ (∀ M, M < 2 ^ p → h2.1 43 (64 * H + (2 ^ p + M)) = nI (b M + v))
  | 0, j, f + 1, h, hm, hf, h1, h2 => by
    have pp := zp2 (i := p) (by omega)
    refine ⟨h, ?_, zbut.rf 43 h, fun _ _ => rfl, h1, fun M hM => h2 M (by omega)⟩
    rw [s_X8_fillBound_L70, if_pos (nI_le (show 2 ^ p ≤ j by omega) (by omega)), nI_1]
  | m + 1, j, f + 1, h, hm, hf, h1, h2 => by
    have pp : 2 ^ p * 2 ≤ 64 := by rw [← Nat.pow_succ]; exact zp2 (by omega)
    have i1 : 64 * H + j < 512 := by omega
    have i2 : 64 * H + (2 ^ p + j) < 512 := by omega
    obtain ⟨g, g1, g2, g3, g4, g5⟩ := e_fb1 k2 k24 hH hp hs (b := b) m (j + 1) f (zwi h 43 (64 * H + (2 ^ p + j)) (nI (b j + v))) (by omega) (by omega) (fun M hM => by rw [zwi_self, pk_un (by omega)]; exact h1 M hM) (fun M hM => by
      rw [zwi_self]
      by_cases e : M = j
      · subst e; rw [pk_us]
      · rw [pk_un (by omega)]; exact h2 M (by omega))
    refine ⟨g, ?_, ((zbut.rf 43 h).wi _ _).tr g2, fun q hq => by rw [g3 q hq, zwi_self, pk_un (by omega)], g4, g5⟩
    rw [s_X8_fillBound_L70, if_neg (nI_ge (show j < 2 ^ p by omega) (by omega)), nI_add, zbs (zriA i1 (by decide) h 43), h1 j (by omega), nI_add, nI_add, nI_add, Nat.add_assoc, zbs (zuiA i2 (by decide) h 43 _), nI_1]
    exact g1
theorem e_fb2 (k2 : Int32 → zHp → Option zHp) {H s n : Nat} {P : Nat → Nat → Nat} {N F : Nat → Nat} (hH : H < 2 ^ n) : ∀ m p f (h : zHp), p + m = s → m < f → zWk h s n P N F → (∀ M, M < 2 ^ p → h.1 43 (64 * H + M) = nI (zbd N F (Nat.testBit M) s H)) → ∃ h2 : zHp, s_X8_fillBound_L24 k2 f (nI H) (nI (64 * H)) (nI p) h = k2 (nI (H + 1)) h2 ∧ zbut 43 h h2 ∧ (∀ q, q < 64 * H → h2.1 43 q = h.1 43 q) ∧ (∀ M, M < 2 ^ s → h2.1 43 (64 * H + M) = nI (zbd N F (Nat.testBit M) s H))
  | 0, p, f + 1, h, hm, hf, w, h1 => by
    obtain rfl : p = s := by omega
    have hs := w.1.2
    refine ⟨h, ?_, zbut.rf 43 h, fun _ _ => rfl, h1⟩
    rw [s_X8_fillBound_L24, w.1.1, if_pos (nI_le (Nat.le_refl p) (by omega)), nI_1]
  | m + 1, p, f + 1, h, hm, hf, w, h1 => by
    have hs := w.1.2
    have hn := w.2.1.2
    have n8 := zp23 hn
    have hp : p < s := by omega
    obtain ⟨w1, w2, w3, w4⟩ := w.2.2.1 p hp
    obtain ⟨c1, c2⟩ := w_cmp (F p) (by omega) H (by omega)
    have zl := zpd_lt (f := F p) (H := H) (by omega) (by omega)
    have mx : ∀ h' : zHp, s_J9_max_7cf53 (0 : Int32) (nI (N p) - nI (zpd (F p) H)) h' = some (nI (N p - zpd (F p) H), h') := fun h' => by
      unfold s_J9_max_7cf53 s_J9_max_7cf53_L10
      rw [← w_max (N p) (by omega) _ zl]
      split <;> rfl
    obtain ⟨g, g1, g2, g3, g4, g5⟩ := e_fb1 k2 (s_X8_fillBound_L24 k2 f) (H := H) (p := p) (s := s) (v := N p - zpd (F p) H) (by omega) hp hs (b := fun M => zbd N F (Nat.testBit M) s H) (2 ^ p) 0 zFU h (by omega) (zFU_gt (by have := zp2 (i := p) (by omega); omega)) h1 (fun M hM => by omega)
    have wg : zWk g s n P N F := zWk_keep w (g2.1 35 (by decide)) (g2.1 37 (by decide)) (g2.1 38 (by decide)) (g2.1 39 (by decide))
    obtain ⟨g', k1, k2', k3, k4⟩ := e_fb2 k2 hH m (p + 1) f g (by omega) (by omega) wg (fun M hM => by
      rw [Nat.pow_succ] at hM
      by_cases e : M < 2 ^ p
      · exact g4 M e
      · have := g5 (M - 2 ^ p) (by omega)
        rw [show 2 ^ p + (M - 2 ^ p) = M by omega] at this
        rw [this]
        congr 1
        unfold zbd
        have z := zsS_bit (g := fun i => N i - zpd (F i) H) (M := M - 2 ^ p) (p := p) (s := s) (by omega) hp
        rw [show 2 ^ p + (M - 2 ^ p) = M by omega] at z
        rw [z])
    refine ⟨g', ?_, g2.tr k2', fun q hq => by rw [k3 q hq, g3 q hq], k4⟩
    rw [nI_0] at g1
    rw [s_X8_fillBound_L24, w.1.1, if_neg (nI_ge hp (by omega)), zbs (zriA (show p < 6 by omega) (by decide) h 38), w2, c1, zbs (w_bc _ c2 h), zbs (zriA (show p < 6 by omega) (by decide) h 37), w1]
    show ((s_J9_max_7cf53 (0 : Int32) (nI (N p) - nI (zpd (F p) H)) h).bind fun q5 => (some ((1 : Int32) <<< (nI p &&& 31))).bind fun v6 => s_X8_fillBound_L70 k2 (s_X8_fillBound_L24 k2 f) zFU (nI H) (nI (64 * H)) (nI p) q5.1 v6 (0 : Int32) q5.2) = _
    rw [zbs (mx h), zbs rfl, zsh1 p (by omega), g1]
    exact k1
theorem e_fb3 {s n : Nat} {P : Nat → Nat → Nat} {N F : Nat → Nat} : ∀ m H f (h : zHp), H + m = 2 ^ n → m < f → zWk h s n P N F → (∀ K, K < H → ∀ M, M < 2 ^ s → h.1 43 (64 * K + M) = nI (zbd N F (Nat.testBit M) s K)) → ∃ h2 : zHp, s_X8_fillBound_L2 f (nI H) h = some h2 ∧ zbut 43 h h2 ∧ zBo h2 s n N F
  | 0, H, f + 1, h, hm, hf, w, h1 => by
    have n8 := zp23 w.2.1.2
    refine ⟨h, ?_, zbut.rf 43 h, fun K hK => h1 K (by omega)⟩
    rw [s_X8_fillBound_L2, w.2.1.1, if_pos (nI_le (show 2 ^ n ≤ H by omega) (by omega))]
  | m + 1, H, f + 1, h, hm, hf, w, h1 => by
    have n8 := zp23 w.2.1.2
    have s6 := zp2 w.1.2
    have hH : H < 2 ^ n := by omega
    have i0 : 64 * H < 512 := by omega
    have w0 : zWk (zwi h 43 (64 * H) 0) s n P N F := zWk_keep w (zwi_ne 35 (by decide)) (zwi_ne 37 (by decide)) (zwi_ne 38 (by decide)) (zwi_ne 39 (by decide))
    obtain ⟨g, g1, g2, g3, g4⟩ := e_fb2 (s_X8_fillBound_L2 f) hH s 0 zFU (zwi h 43 (64 * H) 0) (by omega) (zFU_gt (by have := w.1.2; omega)) w0 (fun M hM => by
      obtain rfl : M = 0 := by omega
      rw [zwi_self, Nat.add_zero, pk_us]
      unfold zbd
      rw [zsS_zero]
      exact nI_0.symm)
    have wg : zWk g s n P N F := zWk_keep w0 (g2.1 35 (by decide)) (g2.1 37 (by decide)) (g2.1 38 (by decide)) (g2.1 39 (by decide))
    obtain ⟨g', k1, k2, k3⟩ := e_fb3 m (H + 1) f g (by omega) (by omega) wg (fun K hK M hM => by
      by_cases e : K = H
      · subst e; exact g4 M hM
      · rw [g3 _ (by omega), zwi_self, pk_un (by omega)]
        exact h1 K (by omega) M hM)
    refine ⟨g', ?_, (((zbut.rf 43 h).wi _ _).tr g2).tr k2, k3⟩
    rw [nI_0] at g1
    rw [s_X8_fillBound_L2, w.2.1.1, if_neg (nI_ge hH (by omega)), zbs rfl, zix64, zbs (zuiA i0 (by decide) h 43 _), g1]
    exact k1
theorem e_fb {h : zHp} {s n : Nat} {P : Nat → Nat → Nat} {N F : Nat → Nat} (w : zWk h s n P N F) : ∃ h2 : zHp, s_X8_fillBound h = some h2 ∧ zbut 43 h h2 ∧ zBo h2 s n N F := by
  have n8 := zp23 w.2.1.2
  obtain ⟨g, g1, g2, g3⟩ := e_fb3 (2 ^ n) 0 zFU h (by omega) (zFU_gt (by omega)) w (fun K hK => by omega)
  rw [nI_0] at g1
  exact ⟨g, g1, g2, g3⟩

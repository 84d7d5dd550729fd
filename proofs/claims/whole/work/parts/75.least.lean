/-! ===== rounds: the least cost by the class ===== -/
theorem zsubm : ∀ S, S < 64 → ∀ t, t < 64 → t &&& S = t → ∀ T, T < t → T &&& S = T → T ≤ (t - 1) &&& S := by decide +kernel
theorem e_lwd1 {h : zHp} {S : Nat} (hS : S < 64) {D O : Nat → Nat} (hD : ∀ T, 0 < T → T &&& S = T → h.1 44 T = nI (D T) ∧ D T ≤ 536870912) (hO : ∀ T, T &&& S = T → h.1 45 T = nI (O T) ∧ O T ≤ 240000000) : ∀ f t u b, t < f → t &&& S = t → t + u ≤ 64 → b ≤ 240000000 → ∃ R, s_X8_leastWithDay_L12 f (nI S) (nI b) (nI t) (nI u) h = some (nI R, h) ∧ R ≤ b ∧ (∀ T, 0 < T → T ≤ t → T &&& S = T → R ≤ D T + O (S ^^^ T)) ∧ (R = b ∨ ∃ T, 0 < T ∧ T &&& S = T ∧ R = D T + O (S ^^^ T))
  | 0, t, u, b, hf, _, _, _ => by omega
  | f + 1, t, u, b, hf, ht, hu, hb => by
    by_cases t0 : t = 0
    · subst t0
      refine ⟨b, ?_, Nat.le_refl _, fun T h1 h2 => by omega, Or.inl rfl⟩
      rw [s_X8_leastWithDay_L12]
      unfold s_X8_leastWithDay_L55
      by_cases c : (64 : Int32) ≤ nI u
      · rw [if_pos c]
      · rw [if_neg c, if_pos nI_0]
    · have t64 : t < 64 := by
        have : t ≤ S := by rw [← ht]; exact Nat.and_le_right
        omega
      have hx : (S ^^^ t) &&& S = S ^^^ t := by
        apply Nat.eq_of_testBit_eq
        intro i
        rw [Nat.testBit_and, Nat.testBit_xor]
        have : t.testBit i = true → S.testBit i = true := fun h => by
          rw [← ht, Nat.testBit_and, Bool.and_eq_true] at h
          exact h.2
        revert this
        cases S.testBit i <;> cases t.testBit i <;> simp
      obtain ⟨d1, d2⟩ := hD t (by omega) ht
      obtain ⟨o1, o2⟩ := hO (S ^^^ t) hx
      have x64 : S ^^^ t < 64 := by
        have : S ^^^ t ≤ S := by rw [← hx]; exact Nat.and_le_right
        omega
      have t' : (t - 1) &&& S ≤ t - 1 := Nat.and_le_left
      have ts : ((t - 1) &&& S) &&& S = (t - 1) &&& S := by rw [Nat.and_assoc, Nat.and_self]
      obtain ⟨R, r1, r2, r3, r4⟩ := e_lwd1 hS hD hO f ((t - 1) &&& S) (u + 1) (min b (D t + O (S ^^^ t))) (by omega) ts (by omega) (by omega)
      refine ⟨R, ?_, by omega, fun T h1 h2 h3 => ?_, ?_⟩
      · rw [s_X8_leastWithDay_L12, if_neg (show ¬ (64 : Int32) ≤ nI u from nI_ge (b := 64) (show u < 64 by omega) (by decide)), if_neg (nI_ne0 (by omega) (by omega)), zbs (zriA t64 (by decide) h 44), d1, zx_xor, zbs (zriA x64 (by decide) h 45), o1, nI_add, zbs (e_min (by omega) (by omega)), zbs rfl]
        have et : nI t - 1 = nI (t - 1) := by
          have e1 : t - 1 + 1 = t := Nat.sub_add_cancel (Nat.pos_of_ne_zero t0)
          rw [← nI_pred (t - 1), e1]
        rw [et, zx_and, nI_1]
        exact r1
      · by_cases e : T = t
        · subst e; omega
        · exact r3 T h1 (zsubm S hS t t64 ht T (by omega) h3) h3
      · rcases r4 with r4 | r4
        · by_cases c : D t + O (S ^^^ t) < b
          · exact Or.inr ⟨t, by omega, ht, by omega⟩
          · exact Or.inl (by omega)
        · exact Or.inr r4
theorem e_lwd {h : zHp} {S : Nat} (hS : S < 64) {D O : Nat → Nat} (hD : ∀ T, 0 < T → T &&& S = T → h.1 44 T = nI (D T) ∧ D T ≤ 536870912) (hO : ∀ T, T &&& S = T → h.1 45 T = nI (O T) ∧ O T ≤ 240000000) : ∃ R, s_X8_leastWithDay (nI S) h = some (nI R, h) ∧ R ≤ O S ∧ (∀ T, 0 < T → T &&& S = T → R ≤ D T + O (S ^^^ T)) ∧ (R = O S ∨ ∃ T, 0 < T ∧ T &&& S = T ∧ R = D T + O (S ^^^ T)) := by
  obtain ⟨o1, o2⟩ := hO S (Nat.and_self S)
  obtain ⟨R, r1, r2, r3, r4⟩ := e_lwd1 hS hD hO zFU S 0 (O S) (zFU_gt (by omega)) (Nat.and_self S) (by omega) o2
  refine ⟨R, ?_, r2, fun T h1 h2 => r3 T h1 (by rw [← h2]; exact Nat.and_le_right) h2, r4⟩
  unfold s_X8_leastWithDay
  rw [zbs (zriA hS (by decide) h 45), o1]
  rw [nI_0] at r1
  exact r1
/-- a set within a set of multiples is a multiple -/
theorem zsubq {i j M : Nat} (h : M &&& (2 ^ i * j) = M) : ∃ a, a ≤ j ∧ M = 2 ^ i * a := by
  have z : M % 2 ^ i = 0 := by
    apply Nat.eq_of_testBit_eq
    intro k
    rw [Nat.testBit_mod_two_pow, Nat.zero_testBit, ← h, Nat.testBit_and, Nat.testBit_two_pow_mul]
    by_cases c : k < i
    · simp [show ¬ i ≤ k by omega]
    · simp [c]
  have d := Nat.div_add_mod M (2 ^ i)
  rw [z, Nat.add_zero] at d
  refine ⟨M / 2 ^ i, ?_, d.symm⟩
  have le : M ≤ 2 ^ i * j := by
    have : M &&& (2 ^ i * j) ≤ 2 ^ i * j := Nat.and_le_right
    omega
  rw [← d] at le
  exact Nat.le_of_mul_le_mul_left le (Nat.two_pow_pos i)
/-- two cells -/
def zbu2 (h h' : zHp) : Prop := (∀ k, k ≠ 44 → k ≠ 45 → h'.1 k = h.1 k) ∧ h'.2 = h.2
theorem zbu2.rf (h : zHp) : zbu2 h h := ⟨fun _ _ _ => rfl, rfl⟩
theorem zbu2.tr {a b d : zHp} (h1 : zbu2 a b) (h2 : zbu2 b d) : zbu2 a d := ⟨fun k hk hk' => (h2.1 k hk hk').trans (h1.1 k hk hk'), h2.2.trans h1.2⟩
theorem zbut.b44 {h h' : zHp} (b : zbut 44 h h') : zbu2 h h' := ⟨fun k hk _ => b.1 k hk, b.2⟩
theorem zbut.b45 {h h' : zHp} (b : zbut 45 h h') : zbu2 h h' := ⟨fun k _ hk => b.1 k hk, b.2⟩
theorem zWk_b2 {h h' : zHp} {s n : Nat} {P : Nat → Nat → Nat} {N F : Nat → Nat} (w : zWk h s n P N F) (b : zbu2 h h') : zWk h' s n P N F := zWk_keep w (b.1 35 (by decide) (by decide)) (b.1 37 (by decide) (by decide)) (b.1 38 (by decide) (by decide)) (b.1 39 (by decide) (by decide))
theorem zRo_b2 {h h' : zHp} {ρ : Nat → Nat} (r : zRo h ρ) (b : zbu2 h h') : zRo h' ρ := fun j hj => by rw [b.1 42 (by decide) (by decide)]; exact r j hj
theorem zBo_b2 {h h' : zHp} {s n : Nat} {N F : Nat → Nat} (r : zBo h s n N F) (b : zbu2 h h') : zBo h' s n N F := fun H hH M hM => by rw [b.1 43 (by decide) (by decide)]; exact r H hH M hM
/-- the table of the least at a day -/
def zTd (h : zHp) (P : Nat → Nat → Nat) (N F ρ : Nat → Nat) (s i d a : Nat) : Prop := ∃ r, h.1 45 (2 ^ i * a) = nI r ∧ r ≤ 240000000 ∧ zMin r (zAch P N F s ρ d (Nat.testBit (2 ^ i * a)))
theorem e_lf1 (k26 : Int32 → Int32 → Int32 → Int32 → zHp → Option (Int32 × zHp)) {s n i d : Nat} {P : Nat → Nat → Nat} {N F ρ : Nat → Nat} (hi : i ≤ s) (hd : d < 5) (hs : s ≤ 6) (hn : n ≤ 3) (hF : ∀ j, j < s → F j < 2 ^ n) (hP : ∀ j, j < s → ∀ d, d ≤ 5 → P j d ≤ 40000000) : ∀ j f (h : zHp), j < 2 ^ (s - i) → j < f → (∀ a, 1 ≤ a → a < 2 ^ (s - i) → h.1 44 (2 ^ i * a) = nI (zDp N F s (fun k => ρ (3 * d + k)) (fun M => zsS (fun j => P j d) (Nat.testBit M) s) (2 ^ n) (2 ^ i * a))) → (∀ a, a < 2 ^ (s - i) → zTd h P N F ρ s i (if a ≤ j then d + 1 else d) a) → ∃ h2 : zHp, s_X8_leastFrom_L53 k26 f (nI i) (nI (2 ^ i)) (nI (2 ^ i * (2 ^ (s - i) - 1))) (nI d) (nI (2 ^ i * j)) h = k26 (nI i) (nI (2 ^ i)) (nI (2 ^ i * (2 ^ (s - i) - 1))) (nI d + (-1 : Int32)) h2 ∧ zbut 45 h h2 ∧ (∀ a, a < 2 ^ (s - i) → zTd h2 P N F ρ s i d a)
  | j, 0, h, _, hf, _, _ => by omega
  | 0, f + 1, h, hj, hf, hD, hT => by
    refine ⟨h, ?_, zbut.rf 45 h, fun a ha => ?_⟩
    · rw [s_X8_leastFrom_L53, Nat.mul_zero, if_pos (show nI 0 ≤ 0 by decide)]
    · by_cases a0 : a = 0
      · subst a0
        obtain ⟨r, r1, r2, r3⟩ := hT 0 ha
        rw [if_pos (Nat.le_refl 0)] at r3
        refine ⟨r, r1, r2, ?_⟩
        rw [Nat.mul_zero] at r3 ⊢
        refine zstep (old := fun _ => r) hd (Nat.two_pow_pos s) (fun M hM => ?_) (Nat.le_refl _) (fun T h1 h2 => ?_) (Or.inl rfl)
        · rw [Nat.and_zero] at hM
          rw [← hM]; exact r3
        · rw [Nat.and_zero] at h2; omega
      · have := hT a ha
        rw [if_neg (by omega)] at this
        exact this
  | j + 1, f + 1, h, hj, hf, hD, hT => by
    have S64 : 2 ^ i * (j + 1) < 64 := zqlt hi hs hj
    have S2 : 2 ^ i * (j + 1) < 2 ^ s := by rw [← zqE hi]; exact Nat.mul_lt_mul_of_pos_left hj (Nat.two_pow_pos i)
    have Spos : 0 < 2 ^ i * (j + 1) := Nat.mul_pos (Nat.two_pow_pos i) (by omega)
    have sbd : ∀ M, zsS (fun j => P j d) (Nat.testBit M) s ≤ 240000000 := fun M => by
      have := zsS_le (g := fun j => P j d) (S := Nat.testBit M) (c := 40000000) s (fun j hj _ => hP j hj d (by omega))
      omega
    have hO : ∀ M, M &&& (2 ^ i * (j + 1)) = M → h.1 45 M = nI (h.1 45 M).toNatClampNeg ∧ (h.1 45 M).toNatClampNeg ≤ 240000000 ∧ zMin (h.1 45 M).toNatClampNeg (zAch P N F s ρ (d + 1) (Nat.testBit M)) := fun M hM => by
      obtain ⟨a, a1, rfl⟩ := zsubq hM
      obtain ⟨r, r1, r2, r3⟩ := hT a (by omega)
      rw [if_pos a1] at r3
      rw [r1, nI_clamp (by omega)]
      exact ⟨rfl, r2, r3⟩
    have hDD : ∀ T, 0 < T → T &&& (2 ^ i * (j + 1)) = T → h.1 44 T = nI (zDp N F s (fun k => ρ (3 * d + k)) (fun M => zsS (fun j => P j d) (Nat.testBit M) s) (2 ^ n) T) ∧ zDp N F s (fun k => ρ (3 * d + k)) (fun M => zsS (fun j => P j d) (Nat.testBit M) s) (2 ^ n) T ≤ 536870912 := fun T h1 h2 => by
      obtain ⟨a, a1, rfl⟩ := zsubq h2
      have a0 : 1 ≤ a := by
        rcases Nat.eq_zero_or_pos a with z | z
        · rw [z, Nat.mul_zero] at h1; omega
        · exact z
      refine ⟨hD a a0 (by omega), ?_⟩
      have := sbd (2 ^ i * a)
      unfold zDp
      dsimp only
      split <;> omega
    obtain ⟨R, r1, r2, r3, r4⟩ := e_lwd S64 hDD (O := fun M => (h.1 45 M).toNatClampNeg) (fun M hM => ⟨(hO M hM).1, (hO M hM).2.1⟩)
    have oS := (hO (2 ^ i * (j + 1)) (Nat.and_self _)).2.1
    have mn : zMin R (zAch P N F s ρ d (Nat.testBit (2 ^ i * (j + 1)))) := by
      refine zstep (old := fun M => (h.1 45 M).toNatClampNeg) hd S2 (fun M hM => (hO M hM).2.2) r2 (fun T h1 h2 h3 => ?_) ?_
      · have := r3 T h1 h2
        unfold zDp at this
        rw [if_pos ((zft_fb hn hF).mpr h3)] at this
        exact this
      · rcases r4 with r4 | ⟨T, t1, t2, t3⟩
        · exact Or.inl r4
        · refine Or.inr ⟨T, t1, t2, ?_⟩
          unfold zDp at t3
          by_cases c : zft N F s (fun k => ρ (3 * d + k)) T (2 ^ n) = true
          · rw [if_pos c] at t3
            exact ⟨(zft_fb hn hF).mp c, t3⟩
          · rw [if_neg c] at t3
            try dsimp only at r2
            omega
    have ne : ∀ a, a ≠ j + 1 → (zwi h 45 (2 ^ i * (j + 1)) (nI R)).1 45 (2 ^ i * a) = h.1 45 (2 ^ i * a) := fun a ha => by rw [zwi_self, pk_un (zqne ha)]
    obtain ⟨g, g1, g2, g3⟩ := e_lf1 k26 hi hd hs hn hF hP j f (zwi h 45 (2 ^ i * (j + 1)) (nI R)) (by omega) (by omega) (fun a a1 a2 => by rw [zwi_ne 44 (by decide)]; exact hD a a1 a2) (fun a ha => by
      by_cases e : a = j + 1
      · subst e
        rw [if_neg (by omega)]
        refine ⟨R, by rw [zwi_self, pk_us], ?_, mn⟩
        try dsimp only at r2
        omega
      · obtain ⟨r, x1, x2, x3⟩ := hT a ha
        refine ⟨r, by rw [ne a e]; exact x1, x2, ?_⟩
        by_cases c : a ≤ j
        · rw [if_pos c]; rw [if_pos (by omega)] at x3; exact x3
        · rw [if_neg c]; rw [if_neg (by omega)] at x3; exact x3)
    refine ⟨g, ?_, ((zbut.rf 45 h).wi _ _).tr g2, g3⟩
    rw [s_X8_leastFrom_L53, if_neg (nI_nle Spos (by omega)), zbs r1, zbs (zuiA S64 (by decide) h 45 _), zbs rfl, pk_sub (by rw [Nat.mul_succ]; omega), show 2 ^ i * (j + 1) - 2 ^ i = 2 ^ i * j by rw [Nat.mul_succ]; omega]
    exact g1
theorem zpre1 (d : Nat) : nI (d + 1) + (-1 : Int32) = nI d := by
  have := nI_pred d
  rw [Int32.sub_eq_add_neg] at this
  exact this
theorem e_lf2 {s n i : Nat} {P : Nat → Nat → Nat} {N F ρ : Nat → Nat} (hi : i ≤ s) : ∀ d f (h : zHp), d ≤ 5 → d < f → zWk h s n P N F → zRo h ρ → zBo h s n N F → (∀ a, a < 2 ^ (s - i) → zTd h P N F ρ s i d a) → ∃ r, ∃ h2 : zHp, s_X8_leastFrom_L26 f (nI i) (nI (2 ^ i)) (nI (2 ^ i * (2 ^ (s - i) - 1))) (nI d + (-1 : Int32)) h = some (nI r, h2) ∧ zbu2 h h2 ∧ zMin r (zAch P N F s ρ 0 (Nat.testBit (2 ^ i * (2 ^ (s - i) - 1))))
  | d, 0, h, _, hf, _, _, _, _ => by omega
  | 0, f + 1, h, hd, hf, w, ro, bo, hT => by
    have Z1 := Nat.two_pow_pos (s - i)
    obtain ⟨r, r1, r2, r3⟩ := hT (2 ^ (s - i) - 1) (by omega)
    refine ⟨r, h, ?_, zbu2.rf h, r3⟩
    rw [s_X8_leastFrom_L26, if_pos (show nI 0 + (-1 : Int32) < 0 by decide), zbs (zriA (zqlt hi w.1.2 (show 2 ^ (s - i) - 1 < 2 ^ (s - i) by omega)) (by decide) h 45), r1]
  | d + 1, f + 1, h, hd, hf, w, ro, bo, hT => by
    have Z1 := Nat.two_pow_pos (s - i)
    have Zl : 2 ^ (s - i) ≤ 64 := zp2 (by have := w.1.2; omega)
    have hF : ∀ j, j < s → F j < 2 ^ n := fun j hj => (w.2.2.1 j hj).2.2.2
    obtain ⟨g, g1, g2, g3⟩ := e_fs44 (d := d) w hi (by omega)
    have b1 := g2.b44
    obtain ⟨g', k1, k2, k3⟩ := e_bar2 (v := fun M => zsS (fun j => P j d) (Nat.testBit M) s) hi (show d < 5 by omega) (2 ^ n) 0 zFU g (by omega) (zFU_gt (by have := zp23 w.2.1.2; omega)) (zWk_b2 w b1) (zRo_b2 ro b1) (zBo_b2 bo b1) (fun a a1 a2 => g3 a a2)
    have b2 := b1.tr k2.b44
    obtain ⟨g'', l1, l2, l3⟩ := e_lf1 (s_X8_leastFrom_L26 f) hi (show d < 5 by omega) w.1.2 w.2.1.2 hF (fun j hj e he => (w.2.2.2 j hj e he).2) (ρ := ρ) (N := N) (2 ^ (s - i) - 1) zFU g' (by omega) (zFU_gt (by omega)) k3 (fun a ha => by
      rw [if_pos (by omega)]
      obtain ⟨r, r1, r2, r3⟩ := hT a ha
      exact ⟨r, by rw [k2.1 45 (by decide), g2.1 45 (by decide)]; exact r1, r2, r3⟩)
    have b3 := b2.tr l2.b45
    obtain ⟨r, h2, m1, m2, m3⟩ := e_lf2 hi d f g'' (by omega) (by omega) (zWk_b2 w b3) (zRo_b2 ro b3) (zBo_b2 bo b3) l3
    refine ⟨r, h2, ?_, b3.tr m2, m3⟩
    rw [nI_0] at k1
    rw [s_X8_leastFrom_L26, zpre1, if_neg (nI_pos (by omega)), zbs g1]
    unfold s_X8_barWhatFitsNot
    rw [k1, zbs rfl, l1]
    exact m1
theorem e_least {h : zHp} {s n i : Nat} {P : Nat → Nat → Nat} {N F ρ : Nat → Nat} (w : zWk h s n P N F) (ro : zRo h ρ) (bo : zBo h s n N F) (hi : i ≤ s) : ∃ h2 : zHp, s_X8_leastFrom (nI i) h = some (nI (zLw P N F (s - i) i ρ), h2) ∧ zbu2 h h2 := by
  have hs := w.1.2
  have n8 := zp23 w.2.1.2
  have s6 := zp2 hs
  have E := zqE hi
  have Z1 := Nat.two_pow_pos (s - i)
  obtain ⟨g, g1, g2, g3⟩ := e_fs45 (d := 5) w hi (Nat.le_refl 5)
  have b1 := g2.b45
  obtain ⟨r, h2, m1, m2, m3⟩ := e_lf2 (ρ := ρ) hi 5 zFU g (Nat.le_refl 5) (zFU_gt (by decide)) (zWk_b2 w b1) (zRo_b2 ro b1) (zBo_b2 bo b1) (fun a ha => ⟨_, g3 a ha, by
    have := zsS_le (g := fun j => P j 5) (S := Nat.testBit (2 ^ i * a)) (c := 40000000) s (fun j hj _ => (w.2.2.2 j hj 5 (Nat.le_refl 5)).2)
    omega, zAch5⟩)
  have er := zAch_L (fun j hj => ⟨(w.2.2.1 j hj).2.2.1, by have := (w.2.2.1 j hj).2.2.2; omega⟩) (show i + (s - i) = s by omega) (S := Nat.testBit (2 ^ i * (2 ^ (s - i) - 1))) (fun j hj => by
    rw [Nat.testBit_two_pow_mul, Nat.testBit_two_pow_sub_one]
    by_cases c : i ≤ j
    · simp [c]; omega
    · simp [c]) m3
  refine ⟨h2, ?_, b1.tr m2⟩
  unfold s_X8_leastFrom
  have e4 : (4 : Int32) = nI 5 + (-1) := by decide
  have e5 : (5 : Int32) = nI 5 := by decide
  rw [zbs rfl, zbs rfl, zsh1 i (by omega), w.1.1, zsh1 s (by omega), pk_sub (Nat.pow_le_pow_right (by decide) hi), e5, zbs g1, show 2 ^ s - 2 ^ i = 2 ^ i * (2 ^ (s - i) - 1) by rw [Nat.mul_sub, E, Nat.mul_one], e4, m1, er]

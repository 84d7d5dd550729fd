/-! ===== rounds: sums, room, what fits not, the least ===== -/
theorem zx_and (a b : Nat) : nI a &&& nI b = nI (a &&& b) := by
  apply Int32.toBitVec_inj.1
  show BitVec.ofNat 32 a &&& BitVec.ofNat 32 b = BitVec.ofNat 32 (a &&& b)
  apply BitVec.eq_of_getLsbD_eq
  intro i hi
  simp [hi]
theorem zx_or (a b : Nat) : nI a ||| nI b = nI (a ||| b) := by
  apply Int32.toBitVec_inj.1
  show BitVec.ofNat 32 a ||| BitVec.ofNat 32 b = BitVec.ofNat 32 (a ||| b)
  apply BitVec.eq_of_getLsbD_eq
  intro i hi
  simp [hi]
theorem zx_xor (a b : Nat) : nI a ^^^ nI b = nI (a ^^^ b) := by
  apply Int32.toBitVec_inj.1
  show BitVec.ofNat 32 a ^^^ BitVec.ofNat 32 b = BitVec.ofNat 32 (a ^^^ b)
  apply BitVec.eq_of_getLsbD_eq
  intro i hi
  simp [hi]
theorem zqE {i p : Nat} (h : i ≤ p) : 2 ^ i * 2 ^ (p - i) = 2 ^ p := by rw [← Nat.pow_add]; congr 1; omega
theorem zqlt {i s a : Nat} (hi : i ≤ s) (hs : s ≤ 6) (ha : a < 2 ^ (s - i)) : 2 ^ i * a < 64 := by
  have h1 := Nat.mul_lt_mul_of_pos_left ha (Nat.two_pow_pos i)
  have h2 := zp2 hs
  rw [zqE hi] at h1
  omega
theorem zqne {i a b : Nat} (h : a ≠ b) : 2 ^ i * a ≠ 2 ^ i * b := fun z => h (Nat.eq_of_mul_eq_mul_left (Nat.two_pow_pos i) z)
theorem zix6 {a b : Nat} : nI a * (6 : Int32) + nI b = nI (6 * a + b) := by
  have e : (6 : Int32) = nI 6 := by decide
  rw [e, pk_mul, nI_add, Nat.mul_comm]
theorem e_price {h : zHp} {s n : Nat} {P : Nat → Nat → Nat} {N F : Nat → Nat} (w : zWk h s n P N F) {p d : Nat} (hp : p < s) (hd : d ≤ 5) : s_X8_priceOf (nI p) (nI d) h = some (nI (P p d), h) := by
  have hs := w.1.2
  unfold s_X8_priceOf
  rw [zix6, zbs (zriA (show 6 * p + d < 36 by omega) (by decide) h 39), (w.2.2.2 p hp d hd).1]
theorem e_fs44a (k7 : Int32 → Int32 → Int32 → zHp → Option zHp) (a3 : Int32) {i p s v : Nat} (hi : i ≤ p) (hp : p < s) (hs : s ≤ 6) {b : Nat → Nat} : ∀ m j f (h : zHp), j + m = 2 ^ (p - i) → m < f → (∀ a, a < 2 ^ (p - i) → h.1 44 (2 ^ i * a) = nI (b a)) → (∀ a, a < j → h.1 44 (2 ^ i * (2 ^ (p - i) + a)) = nI (b a + v)) → ∃ h2 : zHp, s_X8_fillSums_44_L34 k7 f (nI i) a3 (nI p) (nI (2 ^ p)) (nI v) (nI (2 ^ i * j)) h = k7 (nI i) a3 (nI (p + 1)) h2 ∧ zbut 44 h h2 ∧ (∀ a, a < 2 ^ (p - i) → h2.1 44 (2 ^ i * a) = nI (b a)) ∧ (∀ a, a < 2 ^ (p - i) → h2.1 44 (2 ^ i * (2 ^ (p - i) + a)) = nI (b a + v))
  | 0, j, f + 1, h, hm, hf, h1, h2 => by
    have pp := zp2 (i := p) (by omega)
    have E := zqE hi
    obtain rfl : j = 2 ^ (p - i) := by omega
    refine ⟨h, ?_, zbut.rf 44 h, h1, h2⟩
    rw [s_X8_fillSums_44_L34, E, if_pos (nI_le (Nat.le_refl (2 ^ p)) (by omega)), nI_1]
  | m + 1, j, f + 1, h, hm, hf, h1, h2 => by
    have pp := zp2 (i := p) (by omega)
    have E := zqE hi
    have ES : 2 ^ (p - i) * 2 ≤ 2 ^ (s - i) := by rw [← Nat.pow_succ]; exact Nat.pow_le_pow_right (by decide) (by omega)
    have i1 : 2 ^ i * j < 64 := zqlt (s := s) (by omega) hs (by omega)
    have i2 : 2 ^ i * (2 ^ (p - i) + j) < 64 := zqlt (s := s) (by omega) hs (by omega)
    have e2 : 2 ^ p + 2 ^ i * j = 2 ^ i * (2 ^ (p - i) + j) := by rw [Nat.mul_add, E]
    have jl : 2 ^ i * j < 2 ^ p := by rw [← E]; exact Nat.mul_lt_mul_of_pos_left (by omega) (Nat.two_pow_pos i)
    obtain ⟨g, g1, g2, g3, g4⟩ := e_fs44a k7 a3 hi hp hs (b := b) m (j + 1) f (zwi h 44 (2 ^ i * (2 ^ (p - i) + j)) (nI (b j + v))) (by omega) (by omega) (fun a ha => by rw [zwi_self, pk_un (zqne (by omega))]; exact h1 a ha) (fun a ha => by
      rw [zwi_self]
      by_cases e : a = j
      · subst e; rw [pk_us]
      · rw [pk_un (zqne (by omega))]; exact h2 a (by omega))
    refine ⟨g, ?_, ((zbut.rf 44 h).wi _ _).tr g2, g3, g4⟩
    rw [s_X8_fillSums_44_L34, if_neg (nI_ge jl (by omega)), zbs (zriA i1 (by decide) h 44), h1 j (by omega), nI_add, nI_add, e2, zbs (zuiA i2 (by decide) h 44 _), zbs rfl, zsh1 i (by omega), nI_add, show 2 ^ i * j + 2 ^ i = 2 ^ i * (j + 1) by rw [Nat.mul_succ]]
    exact g1
theorem e_fs44b {s n : Nat} {P : Nat → Nat → Nat} {N F : Nat → Nat} {i d : Nat} (hd : d ≤ 5) : ∀ m p f (h : zHp), p + m = s → m < f → i ≤ p → zWk h s n P N F → (∀ a, a < 2 ^ (p - i) → h.1 44 (2 ^ i * a) = nI (zsS (fun j => P j d) (Nat.testBit (2 ^ i * a)) s)) → ∃ h2 : zHp, s_X8_fillSums_44_L7 f (nI i) (nI d) (nI p) h = some h2 ∧ zbut 44 h h2 ∧ (∀ a, a < 2 ^ (s - i) → h2.1 44 (2 ^ i * a) = nI (zsS (fun j => P j d) (Nat.testBit (2 ^ i * a)) s))
  | 0, p, f + 1, h, hm, hf, hi, w, h1 => by
    obtain rfl : p = s := by omega
    have hs := w.1.2
    refine ⟨h, ?_, zbut.rf 44 h, h1⟩
    rw [s_X8_fillSums_44_L7, w.1.1, if_pos (nI_le (Nat.le_refl p) (by omega))]
  | m + 1, p, f + 1, h, hm, hf, hi, w, h1 => by
    have hs := w.1.2
    have hp : p < s := by omega
    have E := zqE hi
    have pp := zp2 (i := p) (by omega)
    have p2 : 2 ^ (p + 1 - i) = 2 ^ (p - i) * 2 := by rw [← Nat.pow_succ]; congr 1; omega
    have lt1 : 2 ^ (p - i) ≤ 2 ^ p := Nat.pow_le_pow_right (by decide) (by omega)
    obtain ⟨g, g1, g2, g3, g4⟩ := e_fs44a (s_X8_fillSums_44_L7 f) (nI d) (i := i) (p := p) (s := s) (v := P p d) hi hp hs (b := fun a => zsS (fun j => P j d) (Nat.testBit (2 ^ i * a)) s) (2 ^ (p - i)) 0 zFU h (by omega) (zFU_gt (by omega)) h1 (fun a ha => by omega)
    have wg : zWk g s n P N F := zWk_keep w (g2.1 35 (by decide)) (g2.1 37 (by decide)) (g2.1 38 (by decide)) (g2.1 39 (by decide))
    obtain ⟨g', k1, k2, k3⟩ := e_fs44b (i := i) hd m (p + 1) f g (by omega) (by omega) (by omega) wg (fun a ha => by
      rw [p2] at ha
      by_cases e : a < 2 ^ (p - i)
      · exact g3 a e
      · have := g4 (a - 2 ^ (p - i)) (by omega)
        rw [show 2 ^ (p - i) + (a - 2 ^ (p - i)) = a by omega] at this
        rw [this]
        congr 1
        have lt : 2 ^ i * (a - 2 ^ (p - i)) < 2 ^ p := by rw [← E]; exact Nat.mul_lt_mul_of_pos_left (by omega) (Nat.two_pow_pos i)
        have z := zsS_bit (g := fun j => P j d) (s := s) lt hp
        rw [← E, ← Nat.mul_add, show 2 ^ (p - i) + (a - 2 ^ (p - i)) = a by omega] at z
        exact z.symm)
    refine ⟨g', ?_, g2.tr k2, k3⟩
    rw [Nat.mul_zero, nI_0] at g1
    rw [s_X8_fillSums_44_L7, w.1.1, if_neg (nI_ge hp (by omega)), zbs rfl, zbs (e_price w hp hd), zsh1 p (by omega), g1]
    exact k1
theorem e_fs44 {h : zHp} {s n : Nat} {P : Nat → Nat → Nat} {N F : Nat → Nat} {i d : Nat} (w : zWk h s n P N F) (hi : i ≤ s) (hd : d ≤ 5) : ∃ h2 : zHp, s_X8_fillSums_44 (nI i) (nI d) h = some h2 ∧ zbut 44 h h2 ∧ (∀ a, a < 2 ^ (s - i) → h2.1 44 (2 ^ i * a) = nI (zsS (fun j => P j d) (Nat.testBit (2 ^ i * a)) s)) := by
  have hs := w.1.2
  have w0 : zWk (zwi h 44 0 0) s n P N F := zWk_keep w (zwi_ne 35 (by decide)) (zwi_ne 37 (by decide)) (zwi_ne 38 (by decide)) (zwi_ne 39 (by decide))
  obtain ⟨g, g1, g2, g3⟩ := e_fs44b hd (s - i) i zFU (zwi h 44 0 0) (by omega) (zFU_gt (by omega)) (Nat.le_refl i) w0 (fun a ha => by
    rw [Nat.sub_self] at ha
    obtain rfl : a = 0 := by omega
    rw [zwi_self, Nat.mul_zero, pk_us, zsS_zero]
    exact nI_0.symm)
  refine ⟨g, ?_, ((zbut.rf 44 h).wi _ _).tr g2, g3⟩
  unfold s_X8_fillSums_44
  rw [← nI_0, zbs (zuiA (show 0 < 64 by decide) (by decide) h 44 _), nI_0, g1]
theorem e_fs45a (k7 : Int32 → Int32 → Int32 → zHp → Option zHp) (a3 : Int32) {i p s v : Nat} (hi : i ≤ p) (hp : p < s) (hs : s ≤ 6) {b : Nat → Nat} : ∀ m j f (h : zHp), j + m = 2 ^ (p - i) → m < f → (∀ a, a < 2 ^ (p - i) → h.1 45 (2 ^ i * a) = nI (b a)) → (∀ a, a < j → h.1 45 (2 ^ i * (2 ^ (p - i) + a)) = nI (b a + v)) → ∃ h2 : zHp, s_X8_fillSums_45_L34 k7 f (nI i) a3 (nI p) (nI (2 ^ p)) (nI v) (nI (2 ^ i * j)) h = k7 (nI i) a3 (nI (p + 1)) h2 ∧ zbut 45 h h2 ∧ (∀ a, a < 2 ^ (p - i) → h2.1 45 (2 ^ i * a) = nI (b a)) ∧ (∀ a, a < 2 ^ (p - i) → h2.1 45 (2 ^ i * (2 ^ (p - i) + a)) = nI (b a + v))
  | 0, j, f + 1, h, hm, hf, h1, h2 => by
    have pp := zp2 (i := p) (by omega)
    have E := zqE hi
    obtain rfl : j = 2 ^ (p - i) := by omega
    refine ⟨h, ?_, zbut.rf 45 h, h1, h2⟩
    rw [s_X8_fillSums_45_L34, E, if_pos (nI_le (Nat.le_refl (2 ^ p)) (by omega)), nI_1]
  | m + 1, j, f + 1, h, hm, hf, h1, h2 => by
    have pp := zp2 (i := p) (by omega)
    have E := zqE hi
    have ES : 2 ^ (p - i) * 2 ≤ 2 ^ (s - i) := by rw [← Nat.pow_succ]; exact Nat.pow_le_pow_right (by decide) (by omega)
    have i1 : 2 ^ i * j < 64 := zqlt (s := s) (by omega) hs (by omega)
    have i2 : 2 ^ i * (2 ^ (p - i) + j) < 64 := zqlt (s := s) (by omega) hs (by omega)
    have e2 : 2 ^ p + 2 ^ i * j = 2 ^ i * (2 ^ (p - i) + j) := by rw [Nat.mul_add, E]
    have jl : 2 ^ i * j < 2 ^ p := by rw [← E]; exact Nat.mul_lt_mul_of_pos_left (by omega) (Nat.two_pow_pos i)
    obtain ⟨g, g1, g2, g3, g4⟩ := e_fs45a k7 a3 hi hp hs (b := b) m (j + 1) f (zwi h 45 (2 ^ i * (2 ^ (p - i) + j)) (nI (b j + v))) (by omega) (by omega) (fun a ha => by rw [zwi_self, pk_un (zqne (by omega))]; exact h1 a ha) (fun a ha => by
      rw [zwi_self]
      by_cases e : a = j
      · subst e; rw [pk_us]
      · rw [pk_un (zqne (by omega))]; exact h2 a (by omega))
    refine ⟨g, ?_, ((zbut.rf 45 h).wi _ _).tr g2, g3, g4⟩
    rw [s_X8_fillSums_45_L34, if_neg (nI_ge jl (by omega)), zbs (zriA i1 (by decide) h 45), h1 j (by omega), nI_add, nI_add, e2, zbs (zuiA i2 (by decide) h 45 _), zbs rfl, zsh1 i (by omega), nI_add, show 2 ^ i * j + 2 ^ i = 2 ^ i * (j + 1) by rw [Nat.mul_succ]]
    exact g1
theorem e_fs45b {s n : Nat} {P : Nat → Nat → Nat} {N F : Nat → Nat} {i d : Nat} (hd : d ≤ 5) : ∀ m p f (h : zHp), p + m = s → m < f → i ≤ p → zWk h s n P N F → (∀ a, a < 2 ^ (p - i) → h.1 45 (2 ^ i * a) = nI (zsS (fun j => P j d) (Nat.testBit (2 ^ i * a)) s)) → ∃ h2 : zHp, s_X8_fillSums_45_L7 f (nI i) (nI d) (nI p) h = some h2 ∧ zbut 45 h h2 ∧ (∀ a, a < 2 ^ (s - i) → h2.1 45 (2 ^ i * a) = nI (zsS (fun j => P j d) (Nat.testBit (2 ^ i * a)) s))
  | 0, p, f + 1, h, hm, hf, hi, w, h1 => by
    obtain rfl : p = s := by omega
    have hs := w.1.2
    refine ⟨h, ?_, zbut.rf 45 h, h1⟩
    rw [s_X8_fillSums_45_L7, w.1.1, if_pos (nI_le (Nat.le_refl p) (by omega))]
  | m + 1, p, f + 1, h, hm, hf, hi, w, h1 => by
    have hs := w.1.2
    have hp : p < s := by omega
    have E := zqE hi
    have pp := zp2 (i := p) (by omega)
    have p2 : 2 ^ (p + 1 - i) = 2 ^ (p - i) * 2 := by rw [← Nat.pow_succ]; congr 1; omega
    have lt1 : 2 ^ (p - i) ≤ 2 ^ p := Nat.pow_le_pow_right (by decide) (by omega)
    obtain ⟨g, g1, g2, g3, g4⟩ := e_fs45a (s_X8_fillSums_45_L7 f) (nI d) (i := i) (p := p) (s := s) (v := P p d) hi hp hs (b := fun a => zsS (fun j => P j d) (Nat.testBit (2 ^ i * a)) s) (2 ^ (p - i)) 0 zFU h (by omega) (zFU_gt (by omega)) h1 (fun a ha => by omega)
    have wg : zWk g s n P N F := zWk_keep w (g2.1 35 (by decide)) (g2.1 37 (by decide)) (g2.1 38 (by decide)) (g2.1 39 (by decide))
    obtain ⟨g', k1, k2, k3⟩ := e_fs45b (i := i) hd m (p + 1) f g (by omega) (by omega) (by omega) wg (fun a ha => by
      rw [p2] at ha
      by_cases e : a < 2 ^ (p - i)
      · exact g3 a e
      · have := g4 (a - 2 ^ (p - i)) (by omega)
        rw [show 2 ^ (p - i) + (a - 2 ^ (p - i)) = a by omega] at this
        rw [this]
        congr 1
        have lt : 2 ^ i * (a - 2 ^ (p - i)) < 2 ^ p := by rw [← E]; exact Nat.mul_lt_mul_of_pos_left (by omega) (Nat.two_pow_pos i)
        have z := zsS_bit (g := fun j => P j d) (s := s) lt hp
        rw [← E, ← Nat.mul_add, show 2 ^ (p - i) + (a - 2 ^ (p - i)) = a by omega] at z
        exact z.symm)
    refine ⟨g', ?_, g2.tr k2, k3⟩
    rw [Nat.mul_zero, nI_0] at g1
    rw [s_X8_fillSums_45_L7, w.1.1, if_neg (nI_ge hp (by omega)), zbs rfl, zbs (e_price w hp hd), zsh1 p (by omega), g1]
    exact k1
theorem e_fs45 {h : zHp} {s n : Nat} {P : Nat → Nat → Nat} {N F : Nat → Nat} {i d : Nat} (w : zWk h s n P N F) (hi : i ≤ s) (hd : d ≤ 5) : ∃ h2 : zHp, s_X8_fillSums_45 (nI i) (nI d) h = some h2 ∧ zbut 45 h h2 ∧ (∀ a, a < 2 ^ (s - i) → h2.1 45 (2 ^ i * a) = nI (zsS (fun j => P j d) (Nat.testBit (2 ^ i * a)) s)) := by
  have hs := w.1.2
  have w0 : zWk (zwi h 45 0 0) s n P N F := zWk_keep w (zwi_ne 35 (by decide)) (zwi_ne 37 (by decide)) (zwi_ne 38 (by decide)) (zwi_ne 39 (by decide))
  obtain ⟨g, g1, g2, g3⟩ := e_fs45b hd (s - i) i zFU (zwi h 45 0 0) (by omega) (zFU_gt (by omega)) (Nat.le_refl i) w0 (fun a ha => by
    rw [Nat.sub_self] at ha
    obtain rfl : a = 0 := by omega
    rw [zwi_self, Nat.mul_zero, pk_us, zsS_zero]
    exact nI_0.symm)
  refine ⟨g, ?_, ((zbut.rf 45 h).wi _ _).tr g2, g3⟩
  unfold s_X8_fillSums_45
  rw [← nI_0, zbs (zuiA (show 0 < 64 by decide) (by decide) h 45 _), nI_0, g1]
def zrq (r : Nat → Nat) (H : Nat) : Nat → Nat
  | 0 => 0
  | k + 1 => zrq r H k + y3 H k * r k
theorem zrq3 (r : Nat → Nat) (H : Nat) : zrq r H 3 = zrM r H := by
  simp only [zrq, zrM]
  omega
theorem zix3 {a b : Nat} : nI a * (3 : Int32) + nI b = nI (3 * a + b) ∧ (3 : Int32) * nI a + nI b = nI (3 * a + b) := by
  have e : (3 : Int32) = nI 3 := by decide
  rw [e, pk_mul, pk_mul, Nat.mul_comm a 3]
  exact ⟨nI_add _ _, nI_add _ _⟩
theorem z3le {k : Nat} (h : k < 3) : ¬ (3 : Int32) ≤ nI k := nI_ge (b := 3) h (by decide)
theorem z33 : (3 : Int32) ≤ nI 3 := by decide
theorem y3_1 {x k : Nat} (h : x.testBit k = true) : y3 x k = 1 := by unfold y3; rw [h]; rfl
theorem y3_0 {x k : Nat} (h : x.testBit k = false) : y3 x k = 0 := by unfold y3; rw [h]; rfl
theorem w_room1 {h : zHp} {ρ : Nat → Nat} (r : zRo h ρ) {d H : Nat} (hd : d < 5) (hH : H < 8) : ∀ m k f, k + m = 3 → m < f → s_X8_roomOf_L5 f (nI d) (nI H) (nI (zrq (fun k => ρ (3 * d + k)) H k)) (nI k) h = some (nI (zrM (fun k => ρ (3 * d + k)) H), h)
  | 0, k, f + 1, hm, hf => by
    obtain rfl : k = 3 := by omega
    rw [s_X8_roomOf_L5, if_pos z33, zrq3]
  | m + 1, k, f + 1, hm, hf => by
    have ih := w_room1 r hd hH m (k + 1) f (by omega) (by omega)
    have hk : k < 3 := by omega
    rw [s_X8_roomOf_L5, if_neg (z3le hk)]
    unfold s_X8_roomOf_L34
    rw [zrq] at ih
    cases c : H.testBit k
    · rw [if_pos ((zbitI H (by omega) k (by omega)).mpr c), nI_1]
      rw [y3_0 c, Nat.zero_mul, Nat.add_zero] at ih
      exact ih
    · rw [if_neg (fun z => by rw [zbitI H (by omega) k (by omega), c] at z; cases z), zix3.1, zbs (zriA (show 3 * d + k < 15 by omega) (by decide) h 42), (r _ (by omega)).1, zbs rfl, nI_add, nI_1]
      rw [y3_1 c, Nat.one_mul] at ih
      exact ih
theorem w_room {h : zHp} {ρ : Nat → Nat} (r : zRo h ρ) {d H : Nat} (hd : d < 5) (hH : H < 8) : s_X8_roomOf (nI d) (nI H) h = some (nI (zrM (fun k => ρ (3 * d + k)) H), h) := by
  have := w_room1 r hd hH 3 0 zFU (by omega) (zFU_gt (by decide))
  rw [nI_0, show zrq (fun k => ρ (3 * d + k)) H 0 = 0 from rfl, nI_0] at this
  exact this
theorem y3_le (x k : Nat) : y3 x k ≤ 1 := by unfold y3; split <;> omega
theorem zrM_le {r : Nat → Nat} (h : ∀ k, k < 3 → r k ≤ 9) (H : Nat) : zrM r H ≤ 27 := by
  have a : ∀ k, k < 3 → y3 H k * r k ≤ 9 := fun k hk => by
    have := Nat.mul_le_mul (y3_le H k) (h k hk)
    omega
  have := a 0 (by decide)
  have := a 1 (by decide)
  have := a 2 (by decide)
  unfold zrM
  omega
theorem zbd_le {N F : Nat → Nat} {S : Nat → Bool} {s H : Nat} (hs : s ≤ 6) (h : ∀ i, i < s → N i ≤ 2) : zbd N F S s H ≤ 12 := by
  have := zsS_le (g := fun i => N i - zpd (F i) H) (S := S) (c := 2) s (fun i hi _ => by have := h i hi; omega)
  unfold zbd
  omega
/-- does a set fit, by the first cuts -/
def zft (N F : Nat → Nat) (s : Nat) (r : Nat → Nat) (M : Nat) : Nat → Bool
  | 0 => true
  | H + 1 => zft N F s r M H && decide (zbd N F (Nat.testBit M) s H ≤ zrM r H)
theorem zft_iff {N F : Nat → Nat} {s : Nat} {r : Nat → Nat} {M : Nat} : ∀ K, zft N F s r M K = true ↔ ∀ H, H < K → zbd N F (Nat.testBit M) s H ≤ zrM r H
  | 0 => ⟨fun _ H h => by omega, fun _ => rfl⟩
  | K + 1 => by
    rw [zft, Bool.and_eq_true, decide_eq_true_iff, zft_iff K]
    constructor
    · rintro ⟨a, b⟩ H hH
      by_cases e : H = K
      · subst e; exact b
      · exact a H (by omega)
    · intro a
      exact ⟨fun H hH => a H (by omega), a K (by omega)⟩
theorem zmod1 : ∀ n, n < 4 → ∀ H, H < 8 → H % 2 ^ n < 8 ∧ y3 (H % 2 ^ n) 0 ≤ y3 H 0 ∧ y3 (H % 2 ^ n) 1 ≤ y3 H 1 ∧ y3 (H % 2 ^ n) 2 ≤ y3 H 2 := by decide +kernel
theorem zmod2 : ∀ n, n < 4 → ∀ H, H < 8 → ∀ f, f < 2 ^ n → zpd f (H % 2 ^ n) = zpd f H := by decide +kernel
theorem zft_fb {N F : Nat → Nat} {s n : Nat} {r : Nat → Nat} {M : Nat} (hn : n ≤ 3) (hF : ∀ i, i < s → F i < 2 ^ n) : zft N F s r M (2 ^ n) = true ↔ zFB N F s (Nat.testBit M) r := by
  rw [zft_iff]
  constructor
  · intro a H hH
    have h1 := a (H % 2 ^ n) (Nat.mod_lt _ (Nat.two_pow_pos n))
    obtain ⟨-, b0, b1, b2⟩ := zmod1 n (by omega) H hH
    have e : zbd N F (Nat.testBit M) s (H % 2 ^ n) = zbd N F (Nat.testBit M) s H := zsS_congr s (fun _ _ => rfl) (fun i hi _ => by rw [zmod2 n (by omega) H hH (F i) (hF i hi)])
    rw [e] at h1
    refine Nat.le_trans h1 ?_
    have c0 := Nat.mul_le_mul_right (r 0) b0
    have c1 := Nat.mul_le_mul_right (r 1) b1
    have c2 := Nat.mul_le_mul_right (r 2) b2
    unfold zrM
    omega
  · intro a H hH
    have := zp23 hn
    exact a H (by omega)
def zDp (N F : Nat → Nat) (s : Nat) (r : Nat → Nat) (v : Nat → Nat) (K M : Nat) : Nat := if zft N F s r M K then v M else 536870912
theorem e_bar1 (k3 : Int32 → Int32 → Int32 → Int32 → zHp → Option zHp) (a1 : Int32) {s n i H : Nat} {P : Nat → Nat → Nat} {N F : Nat → Nat} (hi : i ≤ s) (hs : s ≤ 6) (hH : H < 2 ^ n) (hn : n ≤ 3) (hN : ∀ j, j < s → N j ≤ 2) {r v : Nat → Nat} (hr : ∀ k, k < 3 → r k ≤ 9) : ∀ m j f (h : zHp), j + m = 2 ^ (s - i) → 1 ≤ j → m < f → zBo h s n N F → (∀ a, 1 ≤ a → a < 2 ^ (s - i) → h.1 44 (2 ^ i * a) = nI (zDp N F s r v (if a < j then H + 1 else H) (2 ^ i * a))) → ∃ h2 : zHp, s_X8_barWhatFitsNot_L24 k3 f a1 (nI (2 ^ i)) (nI (2 ^ i * (2 ^ (s - i) - 1))) (nI H) (nI (zrM r H)) (nI (2 ^ i * j)) h = k3 a1 (nI (2 ^ i)) (nI (2 ^ i * (2 ^ (s - i) - 1))) (nI (H + 1)) h2 ∧ zbut 44 h h2 ∧ (∀ a, 1 ≤ a → a < 2 ^ (s - i) → h2.1 44 (2 ^ i * a) = nI (zDp N F s r v (H + 1) (2 ^ i * a)))
  | 0, j, f + 1, h, hm, hj, hf, hb, h1 => by
    have pp := zp2 hs
    have E := zqE hi
    have Z1 := Nat.two_pow_pos (s - i)
    have lt : 2 ^ i * (2 ^ (s - i) - 1) < 2 ^ i * j := Nat.mul_lt_mul_of_pos_left (by omega) (Nat.two_pow_pos i)
    have le : 2 ^ i * j ≤ 64 := by rw [show j = 2 ^ (s - i) by omega, E]; exact pp
    refine ⟨h, ?_, zbut.rf 44 h, fun a a1 a2 => by rw [h1 a a1 a2, if_pos (by omega)]⟩
    rw [s_X8_barWhatFitsNot_L24, if_pos (nI_lt lt (by omega)), nI_1]
  | m + 1, j, f + 1, h, hm, hj, hf, hb, h1 => by
    have pp := zp2 hs
    have n8 := zp23 hn
    have E := zqE hi
    have jlt : 2 ^ i * j < 64 := zqlt hi hs (by omega)
    have jl2 : 2 ^ i * j < 2 ^ s := by rw [← E]; exact Nat.mul_lt_mul_of_pos_left (by omega) (Nat.two_pow_pos i)
    have nlt : 2 ^ i * j ≤ 2 ^ i * (2 ^ (s - i) - 1) := Nat.mul_le_mul_left _ (by omega)
    have ale : 2 ^ i * (2 ^ (s - i) - 1) < 64 := zqlt hi hs (by omega)
    have bl := zbd_le (F := F) (S := Nat.testBit (2 ^ i * j)) (H := H) hs hN
    have rl := zrM_le hr H
    have cj := h1 j hj (by omega)
    rw [if_neg (Nat.lt_irrefl j)] at cj
    have e1 : nI (2 ^ i * j) + nI (2 ^ i) = nI (2 ^ i * (j + 1)) := by rw [nI_add, Nat.mul_succ]
    have stepv : ∀ h' : zHp, zbut 44 h h' → (∀ a, a ≠ j → h'.1 44 (2 ^ i * a) = h.1 44 (2 ^ i * a)) → h'.1 44 (2 ^ i * j) = nI (zDp N F s r v (H + 1) (2 ^ i * j)) → ∃ h2 : zHp, s_X8_barWhatFitsNot_L24 k3 f a1 (nI (2 ^ i)) (nI (2 ^ i * (2 ^ (s - i) - 1))) (nI H) (nI (zrM r H)) (nI (2 ^ i * (j + 1))) h' = k3 a1 (nI (2 ^ i)) (nI (2 ^ i * (2 ^ (s - i) - 1))) (nI (H + 1)) h2 ∧ zbut 44 h h2 ∧ (∀ a, 1 ≤ a → a < 2 ^ (s - i) → h2.1 44 (2 ^ i * a) = nI (zDp N F s r v (H + 1) (2 ^ i * a))) := fun h' b1 b2 b3 => by
      obtain ⟨g, g1, g2, g3⟩ := e_bar1 k3 a1 (P := P) hi hs hH hn hN (v := v) hr m (j + 1) f h' (by omega) (by omega) (by omega) (fun K hK M hM => by rw [b1.1 43 (by decide)]; exact hb K hK M hM) (fun a a1 a2 => by
        by_cases e : a = j
        · subst e; rw [b3, if_pos (by omega)]
        · rw [b2 a e, h1 a a1 a2]
          by_cases d : a < j
          · rw [if_pos d, if_pos (by omega)]
          · rw [if_neg d, if_neg (by omega)])
      exact ⟨g, g1, b1.tr g2, g3⟩
    rw [s_X8_barWhatFitsNot_L24, if_neg (nI_nlt nlt (by omega)), zix64, nI_add, zbs (zriA (show 64 * H + 2 ^ i * j < 512 by omega) (by decide) h 43), hb H hH _ jl2]
    unfold s_X8_barWhatFitsNot_L57
    by_cases c : zbd N F (Nat.testBit (2 ^ i * j)) s H ≤ zrM r H
    · rw [if_pos (nI_le c (by omega)), zbs rfl, e1]
      refine stepv h (zbut.rf 44 h) (fun _ _ => rfl) ?_
      rw [cj]
      unfold zDp
      rw [zft, decide_eq_true c, Bool.and_true]
    · rw [if_neg (nI_ge (show zrM r H < zbd N F (Nat.testBit (2 ^ i * j)) s H by omega) (by omega)), zbs (zuiA jlt (by decide) h 44 _), zbs rfl, e1]
      refine stepv _ ((zbut.rf 44 h).wi _ _) (fun a e => by rw [zwi_self, pk_un (zqne e)]) ?_
      rw [zwi_self, pk_us]
      unfold zDp
      rw [zft, decide_eq_false c, Bool.and_false]
      rfl
theorem e_bar2 {s n i d : Nat} {P : Nat → Nat → Nat} {N F : Nat → Nat} {ρ v : Nat → Nat} (hi : i ≤ s) (hd : d < 5) : ∀ m H f (h : zHp), H + m = 2 ^ n → m < f → zWk h s n P N F → zRo h ρ → zBo h s n N F → (∀ a, 1 ≤ a → a < 2 ^ (s - i) → h.1 44 (2 ^ i * a) = nI (zDp N F s (fun k => ρ (3 * d + k)) v H (2 ^ i * a))) → ∃ h2 : zHp, s_X8_barWhatFitsNot_L3 f (nI d) (nI (2 ^ i)) (nI (2 ^ i * (2 ^ (s - i) - 1))) (nI H) h = some h2 ∧ zbut 44 h h2 ∧ (∀ a, 1 ≤ a → a < 2 ^ (s - i) → h2.1 44 (2 ^ i * a) = nI (zDp N F s (fun k => ρ (3 * d + k)) v (2 ^ n) (2 ^ i * a)))
  | 0, H, f + 1, h, hm, hf, w, ro, hb, h1 => by
    have n8 := zp23 w.2.1.2
    obtain rfl : H = 2 ^ n := by omega
    refine ⟨h, ?_, zbut.rf 44 h, h1⟩
    rw [s_X8_barWhatFitsNot_L3, w.2.1.1, if_pos (nI_le (Nat.le_refl (2 ^ n)) (by omega))]
  | m + 1, H, f + 1, h, hm, hf, w, ro, hb, h1 => by
    have n8 := zp23 w.2.1.2
    have Z1 := Nat.two_pow_pos (s - i)
    have Zl : 2 ^ (s - i) ≤ 64 := zp2 (by have := w.1.2; omega)
    have hH : H < 2 ^ n := by omega
    obtain ⟨g, g1, g2, g3⟩ := e_bar1 (s_X8_barWhatFitsNot_L3 f) (nI d) (P := P) hi w.1.2 hH w.2.1.2 (fun j hj => by have := (w.2.2.1 j hj).2.2.1; omega) (v := v) (r := fun k => ρ (3 * d + k)) (fun k hk => (ro _ (by omega)).2) (2 ^ (s - i) - 1) 1 zFU h (by omega) (Nat.le_refl 1) (zFU_gt (by omega)) hb (fun a a1 a2 => by rw [h1 a a1 a2, if_neg (by omega)])
    have wg : zWk g s n P N F := zWk_keep w (g2.1 35 (by decide)) (g2.1 37 (by decide)) (g2.1 38 (by decide)) (g2.1 39 (by decide))
    obtain ⟨g', k1, k2, k3⟩ := e_bar2 (v := v) hi hd m (H + 1) f g (by omega) (by omega) wg (fun j hj => by rw [g2.1 42 (by decide)]; exact ro j hj) (fun K hK M hM => by rw [g2.1 43 (by decide)]; exact hb K hK M hM) g3
    refine ⟨g', ?_, g2.tr k2, k3⟩
    rw [Nat.mul_one] at g1
    rw [s_X8_barWhatFitsNot_L3, w.2.1.1, if_neg (nI_ge hH (by omega)), zbs (w_room ro hd (by omega)), g1]
    exact k1

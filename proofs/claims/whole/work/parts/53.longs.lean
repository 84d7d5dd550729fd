/-! ===== longs: sums, products, quotients, Euclid ===== -/
def lI (a : Int) : Int64 := Int64.ofInt a
theorem lI_add (a b : Int) : lI a + lI b = lI (a + b) := (Int64.ofInt_add a b).symm
theorem lI_mul (a b : Int) : lI a * lI b = lI (a * b) := (Int64.ofInt_mul a b).symm
theorem lI_sub (a b : Int) : lI a - lI b = lI (a - b) := (Int64.ofInt_sub a b).symm
theorem lI_neg (a : Int) : -lI a = lI (-a) := (Int64.ofInt_neg a).symm
theorem lI_N (n : Nat) : lI (n : Int) = lN n := Int64.ofInt_eq_ofNat
theorem lI_0 : lI 0 = 0 := by decide +kernel
theorem lI_1 : lI 1 = 1 := by decide +kernel
theorem lI_32 {x : Int32} : x.toInt64 = lI x.toInt := Int64.toInt_inj.mp (by
  rw [Int32.toInt_toInt64]
  have h1 := Int32.le_toInt x
  have h2 := Int32.toInt_lt x
  exact (Int64.toInt_ofInt_of_le (by omega) (by omega)).symm)
theorem lI_nI {n : Nat} (h : n < 2 ^ 31) : (nI n).toInt64 = lI n := by rw [lI_32, nI_toInt h]
/-- inside a long -/
def zB (a : Int) : Prop := -9223372036854775808 < a ∧ a < 9223372036854775808
theorem lI_int {a : Int} (h : zB a) : (lI a).toInt = a := by
  have := h.1
  have := h.2
  exact Int64.toInt_ofInt_of_le (by omega) (by omega)
theorem lI_le {a b : Int} (ha : zB a) (hb : zB b) : lI a ≤ lI b ↔ a ≤ b := by
  rw [Int64.le_iff_toInt_le, lI_int ha, lI_int hb]
theorem lI_lt {a b : Int} (ha : zB a) (hb : zB b) : lI a < lI b ↔ a < b := by
  rw [Int64.lt_iff_toInt_lt, lI_int ha, lI_int hb]
theorem lI_eq {a b : Int} (ha : zB a) (hb : zB b) : lI a = lI b ↔ a = b := by
  rw [← Int64.toInt_inj, lI_int ha, lI_int hb]
theorem zB0 : zB 0 := ⟨by decide, by decide⟩
theorem zB1 : zB 1 := ⟨by decide, by decide⟩
theorem lI_le0 {a : Int} (ha : zB a) : lI a ≤ 0 ↔ a ≤ 0 := by rw [← lI_0]; exact lI_le ha zB0
theorem lI_ge0 {a : Int} (ha : zB a) : 0 ≤ lI a ↔ 0 ≤ a := by rw [← lI_0]; exact lI_le zB0 ha
theorem lI_eq0 {a : Int} (ha : zB a) : lI a = 0 ↔ a = 0 := by rw [← lI_0]; exact lI_eq ha zB0
theorem lI_lt0 {a : Int} (ha : zB a) : lI a < 0 ↔ a < 0 := by rw [← lI_0]; exact lI_lt ha zB0
theorem zldivI {a b : Int} (ha : zB a) (hb : zB b) (h0 : b ≠ 0) : zldiv (lI a) (lI b) = some (lI (a.tdiv b)) := by
  unfold zldiv
  rw [if_neg (fun z => h0 ((lI_eq0 hb).mp z))]
  have := ha.1
  have := ha.2
  have := hb.1
  have := hb.2
  have e1 : Int64.minValue.toInt = -9223372036854775808 := by decide +kernel
  have e2 : Int64.maxValue.toInt = 9223372036854775807 := by decide +kernel
  rw [show lI a / lI b = lI (a.tdiv b) from (Int64.ofInt_tdiv (by omega) (by omega) (by omega) (by omega)).symm]
theorem zlremI {a b : Int} (ha : zB a) (hb : zB b) (h0 : b ≠ 0) : zlrem (lI a) (lI b) = some (lI (a.tmod b)) := by
  have h := zldivI ha hb h0
  unfold zldiv at h
  unfold zlrem
  rw [if_neg (fun z => h0 ((lI_eq0 hb).mp z))] at h ⊢
  have h' := Option.some.inj h
  rw [h', lI_mul, lI_sub]
  have : a - a.tdiv b * b = a.tmod b := by
    have := Int.mul_tdiv_add_tmod a b
    rw [Int.mul_comm] at this
    omega
  rw [this]
theorem zlremN {a b : Nat} (ha : a < 2 ^ 63) (hb : b < 2 ^ 63) (h0 : 0 < b) : zlrem (lI a) (lI b) = some (lI ((a % b : Nat) : Int)) := by
  rw [zlremI ⟨by omega, by omega⟩ ⟨by omega, by omega⟩ (by omega)]
  rw [Int.tmod_eq_emod_of_nonneg (by omega)]
  rfl
def zfib : Nat → Nat
  | 0 => 0
  | 1 => 1
  | n + 2 => zfib n + zfib (n + 1)
theorem zfib93 : 2 ^ 63 ≤ zfib 93 := by decide +kernel
theorem zlame (P : Nat → Nat → Nat → Nat → Prop) (h0 : ∀ f a e, P (f + 1) a 0 e) (hs : ∀ f a b e, 0 < b → e < 100 → a < 2 ^ 63 → b < 2 ^ 63 → P f b (a % b) (e + 1) → P (f + 1) a b e) : ∀ k a b e f, b ≤ a → a < zfib (k + 1) → a < 2 ^ 63 → e + k ≤ 100 → k < f → P f a b e
  | 0, a, b, e, f + 1, hb, ha, _, _, _ => by
    have : zfib (0 + 1) = 1 := rfl
    obtain rfl : b = 0 := by omega
    exact h0 f a e
  | 1, a, b, e, f + 1, hb, ha, _, _, _ => by
    have : zfib (1 + 1) = 1 := rfl
    obtain rfl : b = 0 := by omega
    exact h0 f a e
  | k + 2, a, b, e, f + 1, hb, ha, hA, he, hf => by
    by_cases c : b = 0
    · subst c; exact h0 f a e
    have hr : a % b < b := Nat.mod_lt a (by omega)
    refine hs f a b e (by omega) (by omega) hA (by omega) ?_
    by_cases d : b < zfib (k + 2)
    · exact zlame P h0 hs (k + 1) b (a % b) (e + 1) f (by omega) d (by omega) (by omega) (by omega)
    · obtain ⟨f, rfl⟩ : ∃ f', f = f' + 1 := ⟨f - 1, by omega⟩
      by_cases c2 : a % b = 0
      · rw [c2]; exact h0 f b (e + 1)
      have e1 : zfib (k + 2 + 1) = zfib (k + 1) + zfib (k + 2) := rfl
      have e2 : a % b ≤ a - b := by
        rw [Nat.mod_eq_sub_mod hb]
        exact Nat.mod_le _ _
      refine hs f b (a % b) (e + 1) (by omega) (by omega) (by omega) (by omega) ?_
      have hr2 : b % (a % b) < a % b := Nat.mod_lt b (by omega)
      exact zlame P h0 hs k (a % b) (b % (a % b)) (e + 2) f (by omega) (by omega) (by omega) (by omega) (by omega)
theorem zlame2 (P : Nat → Nat → Nat → Nat → Prop) (h0 : ∀ f a e, P (f + 1) a 0 e) (hs : ∀ f a b e, 0 < b → e < 100 → a < 2 ^ 63 → b < 2 ^ 63 → P f b (a % b) (e + 1) → P (f + 1) a b e) {a b f : Nat} (ha : a < 2 ^ 63) (hb : b < 2 ^ 63) (hf : 100 < f) : P f a b 0 := by
  obtain ⟨f, rfl⟩ : ∃ f', f = f' + 1 := ⟨f - 1, by omega⟩
  by_cases c : b = 0
  · subst c; exact h0 f a 0
  have hr : a % b < b := Nat.mod_lt a (by omega)
  refine hs f a b 0 (by omega) (by decide) ha hb ?_
  exact zlame P h0 hs 92 b (a % b) 1 f (by omega) (Nat.lt_of_lt_of_le hb zfib93) hb (by decide) (by omega)
theorem e_gcd {h : zHp} {a b : Nat} (ha : a < 2 ^ 63) (hb : b < 2 ^ 63) : s_X2_commonDivisor (lI a) (lI b) h = some (lI ((Nat.gcd a b : Nat) : Int), h) := by
  refine zlame2 (fun f a b e => s_X2_commonDivisor_L9 f (lI a) (lI b) (nI e) h = some (lI ((Nat.gcd a b : Nat) : Int), h)) ?_ ?_ ha hb (zFU_gt (by decide))
  · intro f a e
    simp only [s_X2_commonDivisor_L9, s_X2_commonDivisor_L44, Nat.gcd_zero_right]
    simp only [show lI ((0 : Nat) : Int) = 0 from lI_0, reduceIte, ite_self]
  · intro f a b e h1 h2 h3 h4 ih
    have c1 : ¬ (100 : Int32) ≤ nI e := nI_ge (b := 100) h2 (by decide)
    have c2 : ¬ lI (b : Int) = 0 := fun z => by rw [lI_eq0 ⟨by omega, by omega⟩] at z; omega
    simp only [s_X2_commonDivisor_L9, c1, c2, reduceIte, zlremN h3 h4 h1, Option.bind_some, nI_1]
    rw [ih, Nat.gcd_comm b (a % b), ← Nat.gcd_rec b a, Nat.gcd_comm b a]
theorem m_gcd0 {h : zHp} {a b : Nat} (ha : a < 2 ^ 63) (hb : b < 2 ^ 63) : s_X10_divisor_L28 zFU (lI a) (lI b) h = some (lI ((Nat.gcd a b : Nat) : Int), h) := by
  refine zlame2 (fun f a b _ => s_X10_divisor_L28 f (lI a) (lI b) h = some (lI ((Nat.gcd a b : Nat) : Int), h)) ?_ ?_ ha hb (zFU_gt (by decide))
  · intro f a e
    simp only [s_X10_divisor_L28, Nat.gcd_zero_right]
    simp only [show lI ((0 : Nat) : Int) = 0 from lI_0, reduceIte]
  · intro f a b e h1 h2 h3 h4 ih
    have c2 : ¬ lI (b : Int) = 0 := fun z => by rw [lI_eq0 ⟨by omega, by omega⟩] at z; omega
    simp only [s_X10_divisor_L28, c2, reduceIte, zlremN h3 h4 h1, Option.bind_some]
    rw [ih, Nat.gcd_comm b (a % b), ← Nat.gcd_rec b a, Nat.gcd_comm b a]
theorem zabs {a : Int} (ha : zB a) : (a.natAbs < 2 ^ 63) := by
  have := ha.1
  have := ha.2
  omega
theorem e_abs {a : Int} {h : zHp} (ha : zB a) : s_J9_abs_067f4 (lI a) h = some (lI (a.natAbs : Int), h) := by
  unfold s_J9_abs_067f4 s_J9_abs_067f4_L12
  by_cases c : 0 ≤ a
  · rw [if_pos ((lI_ge0 ha).mpr c), show (a.natAbs : Int) = a from by omega]
  · rw [if_neg (fun z => c ((lI_ge0 ha).mp z)), lI_neg, show (a.natAbs : Int) = -a from by omega]
theorem m_gcd {a b : Int} {h : zHp} (ha : zB a) (hb : zB b) : s_X10_divisor (lI a) (lI b) h = some (lI ((Int.gcd a b : Nat) : Int), h) := by
  have k := m_gcd0 (h := h) (zabs ha) (zabs hb)
  have kb : ∀ x, s_X10_divisor_L12 (lI b) x h = s_X10_divisor_L28 zFU x (lI (b.natAbs : Int)) h := fun x => by
    unfold s_X10_divisor_L12 s_X10_divisor_L26
    by_cases c : 0 ≤ b
    · rw [if_pos ((lI_ge0 hb).mpr c), show (b.natAbs : Int) = b from by omega]
    · rw [if_neg (fun z => c ((lI_ge0 hb).mp z)), lI_neg, show (b.natAbs : Int) = -b from by omega]
  unfold s_X10_divisor
  rw [kb, kb]
  by_cases c : 0 ≤ a
  · rw [if_pos ((lI_ge0 ha).mpr c), show lI a = lI ((a.natAbs : Nat) : Int) from congrArg lI (by omega)]
    exact k
  · rw [if_neg (fun z => c ((lI_ge0 ha).mp z)), lI_neg, ← show (a.natAbs : Int) = -a from by omega]
    exact k
theorem zgcdB {a b : Int} (hb : zB b) (h0 : b ≠ 0) : 0 < Int.gcd a b ∧ zB (Int.gcd a b : Int) := by
  have h1 : 0 < Int.gcd a b := Int.gcd_pos_of_ne_zero_right a h0
  have h2 : Int.gcd a b ≤ b.natAbs := Nat.le_of_dvd (by omega) (Nat.gcd_dvd_right _ _)
  have := zabs hb
  exact ⟨h1, by omega, by omega⟩
theorem zwl2 {h : zHp} {k : Nat} {x y u v : Int64} : (zwl (zwl (zwl (zwl h k 0 x) k 1 y) k 0 u) k 1 v).2 k 0 = u ∧ (zwl (zwl (zwl (zwl h k 0 x) k 1 y) k 0 u) k 1 v).2 k 1 = v := by
  constructor
  · rw [zwl_self, pk_uLn (by decide), zwl_self, pk_uLs]
  · rw [zwl_self, pk_uLs]
theorem zwl3 {h : zHp} {k : Nat} {x y u v : Int64} : ∀ j, j ≠ k → (zwl (zwl (zwl (zwl h k 0 x) k 1 y) k 0 u) k 1 v).2 j = h.2 j := fun j hj => by
  rw [zwl_ne j hj, zwl_ne j hj, zwl_ne j hj, zwl_ne j hj]
theorem e_put_51 {h : zHp} {a b : Int} (ha : zB a) (hb : zB b) (h0 : 0 < b) : s_X2_put_51 (lI a) (lI b) h = some (zwl (zwl (zwl (zwl h 51 0 0) 51 1 1) 51 0 (lI (a.tdiv (Int.gcd a b)))) 51 1 (lI (b.tdiv (Int.gcd a b)))) := by
  obtain ⟨g1, g2⟩ := zgcdB (a := a) hb (by omega)
  have e1 := e_gcd (h := zwl (zwl h 51 0 0) 51 1 1) (zabs ha) (zabs hb)
  rw [show ((b.natAbs : Nat) : Int) = b from by omega] at e1
  have g0 : ((Int.gcd a b : Nat) : Int) ≠ 0 := by omega
  have c1 : ¬ lI b ≤ 0 := fun z => by rw [lI_le0 hb] at z; omega
  have c2 : ¬ lI ((Int.gcd a b : Nat) : Int) ≤ 0 := fun z => by rw [lI_le0 g2] at z; omega
  simp only [s_X2_put_51, s_X2_put_51_L49, zpl, Option.bind_some, e_abs ha]
  rw [show Nat.gcd a.natAbs b.natAbs = Int.gcd a b from rfl] at e1
  simp only [e1, Option.bind_some, c1, c2, reduceIte, zldivI ha g2 g0, zldivI hb g2 g0]
theorem e_put_58 {h : zHp} {a b : Int} (ha : zB a) (hb : zB b) (h0 : 0 < b) : s_X2_put_58 (lI a) (lI b) h = some (zwl (zwl (zwl (zwl h 58 0 0) 58 1 1) 58 0 (lI (a.tdiv (Int.gcd a b)))) 58 1 (lI (b.tdiv (Int.gcd a b)))) := by
  obtain ⟨g1, g2⟩ := zgcdB (a := a) hb (by omega)
  have e1 := e_gcd (h := zwl (zwl h 58 0 0) 58 1 1) (zabs ha) (zabs hb)
  rw [show ((b.natAbs : Nat) : Int) = b from by omega] at e1
  have g0 : ((Int.gcd a b : Nat) : Int) ≠ 0 := by omega
  have c1 : ¬ lI b ≤ 0 := fun z => by rw [lI_le0 hb] at z; omega
  have c2 : ¬ lI ((Int.gcd a b : Nat) : Int) ≤ 0 := fun z => by rw [lI_le0 g2] at z; omega
  simp only [s_X2_put_58, s_X2_put_58_L49, zpl, Option.bind_some, e_abs ha]
  rw [show Nat.gcd a.natAbs b.natAbs = Int.gcd a b from rfl] at e1
  simp only [e1, Option.bind_some, c1, c2, reduceIte, zldivI ha g2 g0, zldivI hb g2 g0]
theorem e_put_65 {h : zHp} {a b : Int} (ha : zB a) (hb : zB b) (h0 : 0 < b) : s_X2_put_65 (lI a) (lI b) h = some (zwl (zwl (zwl (zwl h 65 0 0) 65 1 1) 65 0 (lI (a.tdiv (Int.gcd a b)))) 65 1 (lI (b.tdiv (Int.gcd a b)))) := by
  obtain ⟨g1, g2⟩ := zgcdB (a := a) hb (by omega)
  have e1 := e_gcd (h := zwl (zwl h 65 0 0) 65 1 1) (zabs ha) (zabs hb)
  rw [show ((b.natAbs : Nat) : Int) = b from by omega] at e1
  have g0 : ((Int.gcd a b : Nat) : Int) ≠ 0 := by omega
  have c1 : ¬ lI b ≤ 0 := fun z => by rw [lI_le0 hb] at z; omega
  have c2 : ¬ lI ((Int.gcd a b : Nat) : Int) ≤ 0 := fun z => by rw [lI_le0 g2] at z; omega
  simp only [s_X2_put_65, s_X2_put_65_L49, zpl, Option.bind_some, e_abs ha]
  rw [show Nat.gcd a.natAbs b.natAbs = Int.gcd a b from rfl] at e1
  simp only [e1, Option.bind_some, c1, c2, reduceIte, zldivI ha g2 g0, zldivI hb g2 g0]
theorem e_put_66 {h : zHp} {a b : Int} (ha : zB a) (hb : zB b) (h0 : 0 < b) : s_X2_put_66 (lI a) (lI b) h = some (zwl (zwl (zwl (zwl h 66 0 0) 66 1 1) 66 0 (lI (a.tdiv (Int.gcd a b)))) 66 1 (lI (b.tdiv (Int.gcd a b)))) := by
  obtain ⟨g1, g2⟩ := zgcdB (a := a) hb (by omega)
  have e1 := e_gcd (h := zwl (zwl h 66 0 0) 66 1 1) (zabs ha) (zabs hb)
  rw [show ((b.natAbs : Nat) : Int) = b from by omega] at e1
  have g0 : ((Int.gcd a b : Nat) : Int) ≠ 0 := by omega
  have c1 : ¬ lI b ≤ 0 := fun z => by rw [lI_le0 hb] at z; omega
  have c2 : ¬ lI ((Int.gcd a b : Nat) : Int) ≤ 0 := fun z => by rw [lI_le0 g2] at z; omega
  simp only [s_X2_put_66, s_X2_put_66_L49, zpl, Option.bind_some, e_abs ha]
  rw [show Nat.gcd a.natAbs b.natAbs = Int.gcd a b from rfl] at e1
  simp only [e1, Option.bind_some, c1, c2, reduceIte, zldivI ha g2 g0, zldivI hb g2 g0]

/-! ===== effect, chance, helped ===== -/
theorem m_std {m : Nat} {h : zHp} (hm : m ≤ 12) : s_X10_in (nI m) 1 11 h = some (if zstd m then 1 else 0, h) := by
  by_cases c : zstd m = true
  · have c' := zstd_iff.mp c
    rw [if_pos c]
    have u1 : ¬ nI m < 1 := nI_nlt (b := 1) c'.1 (by omega)
    have u2 : ¬ (11 : Int32) < nI m := nI_nlt (a := 11) c'.2 (by decide)
    exact e_in1 u1 u2
  · rw [if_neg c]
    refine e_in0 ?_
    by_cases d : m = 0
    · left; subst d; decide
    · right
      obtain rfl : m = 12 := by
        have : ¬ (1 ≤ m ∧ m ≤ 11) := fun z => c (zstd_iff.mpr z)
        omega
      decide
theorem m_eff2 {c D : Nat → Nat} {N : Nat} (hN : 0 < N) (hN2 : N ≤ 6) (a2 : Int32) : ∀ m s f (h : zHp), s + m = 6 → m < f → zTM h c D → zst2 h (zef c D N s) (27720 * N) → ∃ h1 : zHp, s_X10_findEffect_L72 f (nI N) a2 (nI s) h = s_X10_findEffect_L252 (nI N) a2 h1 ∧ h1.1 = h.1 ∧ zst2 h1 (zef c D N 6) (27720 * N)
  | 0, s, f + 1, h, hm, hf, H, hz => by
    obtain rfl : s = 6 := by omega
    refine ⟨h, ?_, rfl, hz⟩
    simp only [s_X10_findEffect_L72, z66, reduceIte]
  | m + 1, s, f + 1, h, hm, hf, H, hz => by
    obtain ⟨d1, d2⟩ := H.1 s (by omega)
    have hc : ∀ r, r < 72 → c r ≤ 999 := fun r hr => (H.2 r hr).2
    have cN : ¬ nI N ≤ 0 := nI_nle hN (by omega)
    by_cases e : zstd (D s) = true
    · have e' := zstd_iff.mp e
      have X0 := zef_rng (c := c) (D := D) hc hN2 s (by omega)
      have a := zca_rng hc (show s < 6 by omega) 12 (by omega)
      have b := zca_rng hc (show s < 6 by omega) (D s) d2
      have d := zca_mono (c := c) (s := s) (12 - D s) (D s)
      rw [show D s + (12 - D s) = 12 from by omega] at d
      obtain ⟨q1, q2⟩ := zq12 (D s) (by omega) e'.1
      have q1' : (D s : Int) * (27720 / D s : Nat) = 27720 := by rw [← Int.natCast_mul, q1]; rfl
      have q2' : ((12 - D s : Nat) : Int) * (27720 / (12 - D s) : Nat) = 27720 := by rw [← Int.natCast_mul, q2]; rfl
      have f1 : 27720 / D s ≤ 27720 := Nat.div_le_self _ _
      have f2 : 27720 / (12 - D s) ≤ 27720 := Nat.div_le_self _ _
      obtain ⟨g1, r1, r2, r3⟩ := m_add (t := zca c s 12 - zca c s (D s)) (b := ((12 - D s : Nat) : Int)) (r := (N : Int) * (27720 / (12 - D s) : Nat)) hz (by omega) (by omega) (by omega) (by omega) (by omega) (by omega) (by rw [Int.mul_left_comm, q2']; omega)
      have n1 := zna_mul (x := (N : Int)) (y := ((27720 / (12 - D s) : Nat) : Int)) (X := 6) (Y := 27720) (by omega) (by rw [Int.natAbs_natCast]; exact f2)
      have n2 := zna_mul (x := zca c s 12 - zca c s (D s)) (y := (N : Int) * ((27720 / (12 - D s) : Nat) : Int)) (X := 11988) (Y := 166320) (by omega) (by omega)
      obtain ⟨g2, s1, s2, s3⟩ := m_add (t := -zca c s (D s)) (b := (D s : Int)) (r := (N : Int) * (27720 / D s : Nat)) r3 (by omega) (by omega) (by omega) (by omega) (by omega) (by omega) (by rw [Int.mul_left_comm, q1']; omega)
      have n3 := zna_mul (x := (N : Int)) (y := ((27720 / D s : Nat) : Int)) (X := 6) (Y := 27720) (by omega) (by rw [Int.natAbs_natCast]; exact f1)
      have n4 := zna_mul (x := -zca c s (D s)) (y := (N : Int) * ((27720 / D s : Nat) : Int)) (X := 11988) (Y := 166320) (by omega) (by omega)
      have H1 := zTM_eq H r2
      have H2 := zTM_eq H1 s2
      obtain ⟨g3, t1, t2, t3⟩ := m_eff1 (s_X10_findEffect_L72 f) hN hN2 e'.1 e'.2 a2 (nI s) H2 s3 (by omega) 6 0 zFU (by omega) (zFU_gt (by decide))
      have eX : zef c D N s + (zca c s 12 - zca c s (D s)) * ((N : Int) * ((27720 / (12 - D s) : Nat) : Int)) + -zca c s (D s) * ((N : Int) * ((27720 / D s : Nat) : Int)) - znr c D (D s) 6 = zef c D N (s + 1) := by
        rw [zef, if_pos e, zrsM, Int.mul_sub, Int.neg_mul, Int.mul_left_comm (zca c s 12 - zca c s (D s)), Int.mul_left_comm (zca c s (D s))]
        omega
      rw [eX] at t3
      obtain ⟨g4, u1, u2, u3⟩ := m_eff2 hN hN2 a2 m (s + 1) f g3 (by omega) (by omega) (zTM_eq H2 t2) t3
      refine ⟨g4, ?_, by rw [u2, t2, s2, r2], u3⟩
      have e12 : ((12 : Int32) - nI (D s)).toInt64 = lI ((12 - D s : Nat) : Int) := by
        rw [show (12 : Int32) = nI 12 from by decide, pk_sub (by omega), lI_nI (by omega)]
      rw [show lI (zon c D (D s) 0) = 0 from lI_0, show lI (zah c D (D s) 0) = 0 from lI_0, nI_0, nI_1] at t1
      simp only [s_X10_findEffect_L72, z6le (show s < 6 by omega), cN, reduceIte, zriA (show s < 6 by omega) (by decide), d1, Option.bind_some, m_std d2, e, z10, m_on H (show s < 6 by omega) d2, e12, r1, m_ahead H1 (show s < 6 by omega) d2, lI_neg, lI_nI (show D s < 2 ^ 31 by omega), s1]
      rw [t1]
      exact u1
    · have ez : zef c D N (s + 1) = zef c D N s := by rw [zef, if_neg e, Int.add_zero]
      obtain ⟨g4, u1, u2, u3⟩ := m_eff2 hN hN2 a2 m (s + 1) f h (by omega) (by omega) H (by rw [ez]; exact hz)
      refine ⟨g4, ?_, u2, u3⟩
      simp only [s_X10_findEffect_L72, s_X10_findEffect_L246, z6le (show s < 6 by omega), cN, reduceIte, zriA (show s < 6 by omega) (by decide), d1, Option.bind_some, m_std d2, e, nI_1]
      exact u1
theorem m_fin0 {h : zHp} {X L M : Int} {N S : Nat} (hN : N ≤ 6) (hS : S ≤ 6) (hz : zst2 h X L) (hL : 0 < L) (hL2 : L ≤ 166320) (hX : X.natAbs ≤ 1000000000000) (hM : 0 < M) (hM2 : M ≤ 6) : ∃ h1 : zHp, s_X10_findEffect_L267 (nI N) (nI S) (h.2 67 60) (lI M) h = some (if 0 < N ∧ 0 < S then 1 else 0, h1) ∧ h1.1 = h.1 ∧ zst2 h1 X (L * M) := by
  obtain ⟨g, u, l, g0, e1, e2, e3, e4, l0, l1, u1⟩ := zlow (X := X) hL
  unfold zst2 at hz
  rw [e3, e4] at hz
  have p3 := zna_mul (x := l) (y := M) (X := 166320) (Y := 6) (by omega) (by omega)
  have lb : 0 < l * M := Int.mul_pos l0 hM
  have lL : 0 < L * M := Int.mul_pos hL hM
  have key : u * (L * M) = X * (l * M) := by rw [e1, e2]; ac_rfl
  obtain ⟨k1, k2⟩ := zred lb lL key
  have bT : zB u := ⟨by omega, by omega⟩
  have bB : zB (l * M) := ⟨by omega, by omega⟩
  obtain ⟨g3, g4⟩ := zgcdB (a := u) bB (by omega)
  refine ⟨zwl (zwl (zwl h 67 60 (lI (l * M))) 67 59 (lI (u.tdiv (Int.gcd u (l * M))))) 67 60 (lI ((l * M).tdiv (Int.gcd u (l * M)))), ?_, rfl, ?_⟩
  · simp only [s_X10_findEffect_L267, hz.1, hz.2, Option.bind_some, lI_mul, zpl, zl_a, zl_b, zl_d, m_gcd bT bB, zldivI bT g4 (by omega), zldivI bB g4 (by omega), s_X10_findEffect_L315, s_X10_findEffect_L316]
    by_cases c1 : 0 < N
    · by_cases c2 : 0 < S
      · simp only [nI_nle c1 (show N < 2 ^ 31 by omega), nI_nle c2 (show S < 2 ^ 31 by omega), c1, c2, and_self, reduceIte, zbo1, Option.bind_some]
      · obtain rfl : S = 0 := by omega
        simp only [nI_nle c1 (show N < 2 ^ 31 by omega), nI_0, show (0 : Int32) ≤ 0 from by decide, c2, and_false, reduceIte, zbo0, Option.bind_some]
    · obtain rfl : N = 0 := by omega
      simp only [nI_0, show (0 : Int32) ≤ 0 from by decide, c1, false_and, reduceIte, zbo0, Option.bind_some]
  · unfold zst2
    rw [zl_a, zl_c, zl_d, k1, k2]
    exact ⟨rfl, rfl⟩
theorem m_fin {h : zHp} {X L : Int} {N S : Nat} (hN : N ≤ 6) (hS : S ≤ 6) (hz : zst2 h X L) (hL : 0 < L) (hL2 : L ≤ 166320) (hX : X.natAbs ≤ 1000000000000) : ∃ h1 : zHp, s_X10_findEffect_L252 (nI N) (nI S) h = some (if 0 < N ∧ 0 < S then 1 else 0, h1) ∧ h1.1 = h.1 ∧ (0 < S → zst2 h1 X (L * S)) := by
  unfold s_X10_findEffect_L252
  by_cases c : 0 < S
  · obtain ⟨h1, q1, q2, q3⟩ := m_fin0 (M := S) hN hS hz hL hL2 hX (by omega) (by omega)
    refine ⟨h1, ?_, q2, fun _ => q3⟩
    rw [if_neg (nI_nle c (by omega)), lI_nI (by omega)]
    exact q1
  · obtain ⟨h1, q1, q2, q3⟩ := m_fin0 (M := 1) hN hS hz hL hL2 hX (by omega) (by omega)
    refine ⟨h1, ?_, q2, fun z => absurd z c⟩
    obtain rfl : S = 0 := by omega
    rw [if_pos (by decide), ← lI_1]
    exact q1
theorem m_cnt {h : zHp} {c D : Nat → Nat} (H : zTM h c D) : ∀ m s f, s + m = 6 → m < f → s_X10_findEffect_L6 f (nI (zcn (fun i => znv (D i)) s)) (nI (zcn (fun i => zstd (D i)) s)) (nI s) h = s_X10_findEffect_L72 zFU (nI (zcn (fun i => znv (D i)) 6)) (nI (zcn (fun i => zstd (D i)) 6)) 0 (zwl (zwl h 67 59 0) 67 60 1)
  | 0, s, f + 1, hm, hf => by
    obtain rfl : s = 6 := by omega
    simp only [s_X10_findEffect_L6, z66, reduceIte, zpl, Option.bind_some]
  | m + 1, s, f + 1, hm, hf => by
    have ih := m_cnt H m (s + 1) f (by omega) (by omega)
    obtain ⟨d1, d2⟩ := H.1 s (by omega)
    rw [show zcn (fun i => znv (D i)) (s + 1) = zcn (fun i => znv (D i)) s + if znv (D s) then 1 else 0 from rfl, show zcn (fun i => zstd (D i)) (s + 1) = zcn (fun i => zstd (D i)) s + if zstd (D s) then 1 else 0 from rfl] at ih
    rw [← ih]
    simp only [s_X10_findEffect_L6, s_X10_findEffect_L29, s_X10_findEffect_L52, z6le (show s < 6 by omega), reduceIte, zriA (show s < 6 by omega) (by decide), d1, Option.bind_some, m_std d2, nI_1]
    by_cases e : D s = 12
    · rw [if_pos ((z12eq d2).mpr e), show znv (D s) = true from decide_eq_true e, show zstd (D s) = false from by rw [e]; rfl]
      simp only [Bool.false_eq_true, reduceIte, Int32.add_zero, Nat.add_zero, nI_1]
    · rw [if_neg (fun z => e ((z12eq d2).mp z)), show znv (D s) = false from decide_eq_false e]
      cases zstd (D s)
      · simp only [Bool.false_eq_true, reduceIte, Int32.add_zero, Nat.add_zero]
      · simp only [Bool.false_eq_true, reduceIte, Int32.add_zero, Nat.add_zero, z10, nI_1]
theorem zst2_0 {h : zHp} {L : Int} (hL : 0 < L) : zst2 (zwl (zwl h 67 59 0) 67 60 1) 0 L := by
  unfold zst2
  rw [zl_a, zl_c, zl_d, Int.zero_tdiv, lI_0, Int.gcd_zero_left, show ((L.natAbs : Nat) : Int) = L from by omega, Int.tdiv_self (by omega), lI_1]
  exact ⟨rfl, rfl⟩
theorem m_effect {h : zHp} {c D : Nat → Nat} (H : zTM h c D) {N S : Nat} (eN : N = zcn (fun i => znv (D i)) 6) (eS : S = zcn (fun i => zstd (D i)) 6) : ∃ h1 : zHp, s_X10_findEffect h = some (if 0 < N ∧ 0 < S then 1 else 0, h1) ∧ h1.1 = h.1 ∧ (0 < N → 0 < S → zst2 h1 (zef c D N 6) (27720 * N * S)) := by
  have hN : N ≤ 6 := by rw [eN]; exact zcn_le _ 6
  have hS : S ≤ 6 := by rw [eS]; exact zcn_le _ 6
  have q := m_cnt H 6 0 zFU (by omega) (zFU_gt (by decide))
  rw [← eN, ← eS, show zcn (fun i => znv (D i)) 0 = 0 from rfl, show zcn (fun i => zstd (D i)) 0 = 0 from rfl, nI_0] at q
  by_cases c0 : 0 < N
  · obtain ⟨h1, r1, r2, r3⟩ := m_eff2 (c := c) (D := D) c0 hN (nI S) 6 0 zFU (zwl (zwl h 67 59 0) 67 60 1) (by omega) (zFU_gt (by decide)) H (zst2_0 (by omega))
    have X0 := zef_rng (c := c) (D := D) (fun r hr => (H.2 r hr).2) hN 6 (Nat.le_refl 6)
    obtain ⟨h2, s1, s2, s3⟩ := m_fin hN hS r3 (by omega) (by omega) (by omega)
    refine ⟨h2, ?_, by rw [s2, r2]; rfl, fun _ => s3⟩
    unfold s_X10_findEffect
    rw [nI_0] at r1
    rw [q, r1, s1]
  · obtain ⟨h2, s1, s2, s3⟩ := m_fin (h := zwl (zwl h 67 59 0) 67 60 1) (X := 0) (L := 1) hN hS (zst2_0 (by omega)) (by omega) (by omega) (by omega)
    refine ⟨h2, ?_, by rw [s2]; rfl, fun z => absurd z c0⟩
    unfold s_X10_findEffect
    obtain ⟨f, hfu⟩ : ∃ f, zFU = f + 1 := ⟨4611686018427387903, rfl⟩
    rw [q, hfu, s_X10_findEffect_L72]
    rw [if_neg (by decide), if_pos (by rw [show N = 0 from by omega]; decide)]
    exact s1
theorem m_true1 {c b : Nat → Nat} (hb12 : ∀ i, i < 6 → b i ≤ 12) : ∀ m j f (h : zHp), j + m = 6 → m < f → (∀ i, i < 6 → h.1 113 i = nI (b i)) → (∀ i, i < j → h.1 115 i = nI (b i)) → ∃ h1 : zHp, s_X10_findTrue_L2 f (nI j) h = ((s_X10_findEffect h1).bind fun q2 => (zbo q2.1).bind fun _ => some (q2.1, q2.2)) ∧ (∀ k, k ≠ 115 → h1.1 k = h.1 k) ∧ (∀ i, i < 6 → h1.1 115 i = nI (b i))
  | 0, j, f + 1, h, hm, hf, hb, hp => by
    obtain rfl : j = 6 := by omega
    refine ⟨h, ?_, fun _ _ => rfl, hp⟩
    simp only [s_X10_findTrue_L2, z66, reduceIte]
  | m + 1, j, f + 1, h, hm, hf, hb, hp => by
    obtain ⟨h1, q1, q2, q4⟩ := m_true1 (c := c) hb12 m (j + 1) f (zwi h 115 j (nI (b j))) (by omega) (by omega) (fun i hi => by rw [zwi_ne 113 (by decide)]; exact hb i hi) (fun i hi => by
      rw [zwi_self]
      by_cases e : i = j
      · subst e; rw [pk_us]
      · rw [pk_un e]; exact hp i (by omega))
    refine ⟨h1, ?_, fun k hk => by rw [q2 k hk, zwi_ne k hk], q4⟩
    simp only [s_X10_findTrue_L2, z6le (show j < 6 by omega), reduceIte, zriA (show j < 6 by omega) (by decide), hb j (by omega), Option.bind_some, zuiA (show j < 6 by omega) (by decide), nI_1]
    exact q1
def zTB (h : zHp) (c b : Nat → Nat) : Prop := (∀ j, j < 6 → h.1 113 j = nI (b j) ∧ b j ≤ 12) ∧ (∀ r, r < 72 → h.1 114 r = nI (c r) ∧ c r ≤ 999)
theorem m_true {h : zHp} {c b : Nat → Nat} (H : zTB h c b) {N S : Nat} (eN : N = zcn (fun i => znv (b i)) 6) (eS : S = zcn (fun i => zstd (b i)) 6) : ∃ h1 : zHp, s_X10_findTrue h = some (if 0 < N ∧ 0 < S then 1 else 0, h1) ∧ (∀ k, k ≠ 115 → h1.1 k = h.1 k) ∧ (0 < N → 0 < S → zst2 h1 (zef c b N 6) (27720 * N * S)) := by
  obtain ⟨h1, q1, q2, q3⟩ := m_true1 (c := c) (fun i hi => (H.1 i hi).2) 6 0 zFU h (by omega) (zFU_gt (by decide)) (fun i hi => (H.1 i hi).1) (fun i hi => by omega)
  have H1 : zTM h1 c b := ⟨fun j hj => ⟨q3 j hj, (H.1 j hj).2⟩, by rw [q2 114 (by decide)]; exact H.2⟩
  obtain ⟨h2, r1, r2, r3⟩ := m_effect H1 eN eS
  refine ⟨h2, ?_, fun k hk => by rw [r2, q2 k hk], r3⟩
  unfold s_X10_findTrue
  rw [nI_0] at q1
  rw [q1, r1, zbs rfl]
  by_cases c0 : 0 < N ∧ 0 < S
  · rw [if_pos c0, zbs zbo1]
  · rw [if_neg c0, zbs zbo0]
theorem m_place1 (k26 : Int64 → Int64 → Int32 → Int32 → zHp → Option (Int32 × zHp)) (a1 a3 : Int64) (a5 a6 : Int32) {b : Nat → Nat} : ∀ n k w p f (h : zHp), k + n = 6 → n < f → w < 2 ^ 31 → (∀ j, j < 6 → h.1 113 j = nI (b j)) → (∀ j, k ≤ j → j < 6 → h.1 116 j = nI (p j) ∧ p j < 6) → ∃ h1 : zHp, s_X10_findChance_L66 k26 f a1 a3 a5 a6 (nI w) (nI k) h = ((s_X10_findEffect h1).bind fun q2 => if (a1 * (q2.2.2 67 60)) < ((q2.2.2 67 59) * a3) then s_X10_findChance_L182 k26 a1 a3 a6 a5 (0 : Int32) q2.2 else s_X10_findChance_L182 k26 a1 a3 a6 a5 (1 : Int32) q2.2) ∧ (∀ k', k' ≠ 115 → k' ≠ 116 → h1.1 k' = h.1 k') ∧ (∀ i, i < k → h1.1 115 i = h.1 115 i) ∧ (∀ i, i < n → h1.1 115 (k + i) = nI (b ((ztc n k w p).getD i 0)))
  | 0, k, w, p, f + 1, h, hm, hf, hw, hb, hp => by
    obtain rfl : k = 6 := by omega
    refine ⟨h, ?_, fun _ _ _ => rfl, fun _ _ => rfl, fun i hi => by omega⟩
    simp only [s_X10_findChance_L66, z66, reduceIte]
  | n + 1, k, w, p, f + 1, h, hm, hf, hw, hb, hp => by
    have hd : w % (n + 1) < n + 1 := Nat.mod_lt _ (by omega)
    have hq : w / (n + 1) ≤ w := Nat.div_le_self _ _
    have e6 : (6 : Int32) - nI k = nI (n + 1) := by rw [show (6 : Int32) = nI 6 from by decide, pk_sub (by omega)]; congr 1; omega
    generalize ej : k + w % (n + 1) = j at *
    obtain ⟨pk1, pk2⟩ := hp k (by omega) (by omega)
    obtain ⟨pj1, pj2⟩ := hp j (by omega) (by omega)
    have hat : (zwi (zwi h 116 k (nI (p j))) 116 j (nI (p k))).1 116 k = nI (p j) := by
      rw [zwi_self, zwi_self]
      by_cases e : k = j
      · subst e; rw [pk_us]
      · rw [pk_un e, pk_us]
    obtain ⟨h1, q1, q2, q4, q5⟩ := m_place1 k26 a1 a3 a5 a6 (b := b) n (k + 1) (w / (n + 1)) (znp p j (p k)) f (zwi (zwi (zwi h 116 k (nI (p j))) 116 j (nI (p k))) 115 k (nI (b (p j)))) (by omega) (by omega) (by omega) (fun i hi => by
      rw [zwi_ne 113 (by decide), zwi_ne 113 (by decide), zwi_ne 113 (by decide)]; exact hb i hi) (fun i hi hi2 => by
      rw [zwi_ne 116 (by decide), zwi_self, zwi_self]
      unfold znp
      by_cases e : i = j
      · rw [if_pos e, e, pk_us]; exact ⟨rfl, pk2⟩
      · rw [if_neg e, pk_un e, pk_un (by omega)]; exact hp i (by omega) hi2)
    refine ⟨h1, ?_, fun k' k1 k2 => ?_, fun i hi => ?_, fun i hi => ?_⟩
    · simp only [s_X10_findChance_L66, z6le (show k < 6 by omega), reduceIte, Option.bind_some, e6, zremA hw (show 0 < n + 1 by omega) (show n + 1 < 2 ^ 31 by omega), zdivA hw (show 0 < n + 1 by omega) (show n + 1 < 2 ^ 31 by omega), nI_add, ej, zriA (show k < 6 by omega) (by decide), zriA (show j < 6 by omega) (by decide), pk1, pj1, zuiA (show k < 6 by omega) (by decide), zuiA (show j < 6 by omega) (by decide), hat, zriA pj2 (by decide), zwi_ne (k := 116) 113 (by decide), hb (p j) pj2, nI_1]
      exact q1
    · rw [q2 k' k1 k2, zwi_ne k' k1, zwi_ne k' k2, zwi_ne k' k2]
    · rw [q4 i (by omega), zwi_self, pk_un (by omega), zwi_ne 115 (by decide), zwi_ne 115 (by decide)]
    · match i with
      | 0 =>
        rw [Nat.add_zero, q4 k (by omega), zwi_self, pk_us]
        rw [ztc, ej]
        rfl
      | i + 1 =>
        have := q5 i (by omega)
        rw [show k + (i + 1) = k + 1 + i from by omega, this, ztc, ej]
        rfl
theorem m_place2 (k26 : Int64 → Int64 → Int32 → Int32 → zHp → Option (Int32 × zHp)) (a1 a3 : Int64) (a5 a6 a7 : Int32) : ∀ m j f (h : zHp), j + m = 6 → m < f → (∀ i, i < j → h.1 116 i = nI i) → ∃ h1 : zHp, s_X10_findChance_L41 k26 f a1 a3 a5 a6 a7 (nI j) h = s_X10_findChance_L66 k26 zFU a1 a3 a5 a6 a7 0 h1 ∧ (∀ k', k' ≠ 116 → h1.1 k' = h.1 k') ∧ (∀ i, i < 6 → h1.1 116 i = nI i)
  | 0, j, f + 1, h, hm, hf, hp => by
    obtain rfl : j = 6 := by omega
    refine ⟨h, ?_, fun _ _ => rfl, hp⟩
    simp only [s_X10_findChance_L41, z66, reduceIte]
  | m + 1, j, f + 1, h, hm, hf, hp => by
    obtain ⟨h1, q1, q2, q4⟩ := m_place2 k26 a1 a3 a5 a6 a7 m (j + 1) f (zwi h 116 j (nI j)) (by omega) (by omega) (fun i hi => by
      rw [zwi_self]
      by_cases e : i = j
      · subst e; rw [pk_us]
      · rw [pk_un e]; exact hp i (by omega))
    refine ⟨h1, ?_, fun k hk => by rw [q2 k hk, zwi_ne k hk], q4⟩
    simp only [s_X10_findChance_L41, z6le (show j < 6 by omega), reduceIte, Option.bind_some, zuiA (show j < 6 by omega) (by decide), nI_1]
    exact q1
theorem zcmp {X0 X1 L : Int} (hL : 0 < L) : X0.tdiv (Int.gcd X0 L) * L.tdiv (Int.gcd X1 L) < X1.tdiv (Int.gcd X1 L) * L.tdiv (Int.gcd X0 L) ↔ X0 < X1 := by
  obtain ⟨g, u, l, g0, e1, e2, e3, e4, l0, l1, u1⟩ := zlow (X := X0) hL
  obtain ⟨g', u', l', g0', e1', e2', e3', e4', l0', l1', u1'⟩ := zlow (X := X1) hL
  rw [e3, e4, e3', e4']
  have hg : 0 < g * g' := Int.mul_pos g0 g0'
  have a1 : (g * g') * (u * l') = X0 * L := by
    rw [show X0 * L = (g * u) * (g' * l') from by rw [← e1, ← e2']]; ac_rfl
  have a2 : (g * g') * (u' * l) = X1 * L := by
    rw [show X1 * L = (g' * u') * (g * l) from by rw [← e1', ← e2]]; ac_rfl
  constructor
  · intro z
    have := Int.mul_lt_mul_of_pos_left z hg
    rw [a1, a2] at this
    exact Int.lt_of_mul_lt_mul_right this (by omega)
  · intro z
    have := Int.mul_lt_mul_of_pos_right z hL
    rw [← a1, ← a2] at this
    exact Int.lt_of_mul_lt_mul_left this (by omega)
theorem zTB_same {h h' : zHp} {c b : Nat → Nat} (H : zTB h c b) (e0 : h'.1 113 = h.1 113) (e1 : h'.1 114 = h.1 114) : zTB h' c b := by
  unfold zTB
  rw [e0, e1]
  exact H
theorem m_ways1 {c b : Nat → Nat} {N S : Nat} (eN : N = zcn (fun i => znv (b i)) 6) (eS : S = zcn (fun i => zstd (b i)) 6) (hN : 0 < N) (hS : 0 < S) : ∀ m w f (h : zHp), w + m = 720 → m < f → zTB h c b → ∃ h1 : zHp, s_X10_findChance_L26 f (lI ((zef c b N 6).tdiv (Int.gcd (zef c b N 6) (27720 * N * S)))) (lI ((27720 * N * S : Int).tdiv (Int.gcd (zef c b N 6) (27720 * N * S)))) (nI (zcn (fun w => zWay c b N (fun s => (ztc 6 0 w id).getD s 0)) w)) (nI w) h = some (nI (zcn (fun w => zWay c b N (fun s => (ztc 6 0 w id).getD s 0)) 720), h1) ∧ (∀ k, k ≠ 115 → k ≠ 116 → h1.1 k = h.1 k)
  | 0, w, f + 1, h, hm, hf, H => by
    obtain rfl : w = 720 := by omega
    refine ⟨h, ?_, fun _ _ _ => rfl⟩
    simp only [s_X10_findChance_L26, show (720 : Int32) ≤ nI 720 from by decide, reduceIte]
  | m + 1, w, f + 1, h, hm, hf, H => by
    have hN6 : N ≤ 6 := by rw [eN]; exact zcn_le _ 6
    have hS6 : S ≤ 6 := by rw [eS]; exact zcn_le _ 6
    have hL : (0 : Int) < 27720 * N * S := Int.mul_pos (by omega) (by omega)
    have hL2 := zna_mul (x := 27720 * (N : Int)) (y := (S : Int)) (X := 166320) (Y := 6) (by omega) (by omega)
    have cr : ∀ r, r < 72 → c r ≤ 999 := fun r hr => (H.2 r hr).2
    have hl := zperm6 (ztc_ok w (by omega))
    obtain ⟨h1, q1, q2, q3⟩ := m_place2 (s_X10_findChance_L26 f) (lI ((zef c b N 6).tdiv (Int.gcd (zef c b N 6) (27720 * N * S)))) (lI ((27720 * N * S : Int).tdiv (Int.gcd (zef c b N 6) (27720 * N * S)))) (nI (zcn (fun w => zWay c b N (fun s => (ztc 6 0 w id).getD s 0)) w)) (nI w) (nI w) 6 0 zFU h (by omega) (zFU_gt (by decide)) (fun i hi => by omega)
    obtain ⟨h2, r1, r2, r3, r4⟩ := m_place1 (s_X10_findChance_L26 f) (lI ((zef c b N 6).tdiv (Int.gcd (zef c b N 6) (27720 * N * S)))) (lI ((27720 * N * S : Int).tdiv (Int.gcd (zef c b N 6) (27720 * N * S)))) (nI (zcn (fun w => zWay c b N (fun s => (ztc 6 0 w id).getD s 0)) w)) (nI w) (b := b) 6 0 w id zFU h1 (by omega) (zFU_gt (by decide)) (by omega) (fun i hi => by rw [q2 113 (by decide)]; exact (H.1 i hi).1) (fun i _ hi => ⟨q3 i hi, hi⟩)
    have H2 : zTM h2 c (fun s => b ((ztc 6 0 w id).getD s 0)) := ⟨fun j hj => ⟨by have := r4 j hj; rw [Nat.zero_add] at this; exact this, (H.1 _ (hl.2 _ (zgetD (by rw [hl.1]; exact hj)))).2⟩, by rw [r2 114 (by decide) (by decide), q2 114 (by decide)]; exact H.2⟩
    obtain ⟨h3, s1, s2, s3⟩ := m_effect H2 (N := N) (S := S) (by rw [eN]; exact (zperm_count (ztc_ok w (by omega)) (fun i => znv (b i))).symm) (by rw [eS]; exact (zperm_count (ztc_ok w (by omega)) (fun i => zstd (b i))).symm)
    have s3 := s3 hN hS
    have H3 : zTB h3 c b := zTB_same H (by rw [s2, r2 113 (by decide) (by decide), q2 113 (by decide)]) (by rw [s2, r2 114 (by decide) (by decide), q2 114 (by decide)])
    obtain ⟨h4, t1, t2⟩ := m_ways1 eN eS hN hS m (w + 1) f h3 (by omega) (by omega) H3
    refine ⟨h4, ?_, fun k k1 k2 => by rw [t2 k k1 k2, s2, r2 k k1 k2, q2 k k2]⟩
    have X0 := zef_rng (c := c) (D := b) cr hN6 6 (Nat.le_refl 6)
    have X1 := zef_rng (c := c) (D := fun s => b ((ztc 6 0 w id).getD s 0)) cr hN6 6 (Nat.le_refl 6)
    have cmp := zcmp (X0 := zef c b N 6) (X1 := zef c (fun s => b ((ztc 6 0 w id).getD s 0)) N 6) hL
    obtain ⟨_, u, l, _, _, _, e3, e4, l0, l1, u1⟩ := zlow (X := zef c b N 6) hL
    obtain ⟨_, u', l', _, _, _, e3', e4', l0', l1', u1'⟩ := zlow (X := zef c (fun s => b ((ztc 6 0 w id).getD s 0)) N 6) hL
    unfold zst2 at s3
    rw [e3', e4'] at s3 cmp
    rw [e3, e4] at cmp
    rw [e3, e4] at q1 r1 t1 ⊢
    have n1 := zna_mul (x := u) (y := l') (X := 50400000000) (Y := 997920) (by omega) (by omega)
    have n2 := zna_mul (x := u') (y := l) (X := 50400000000) (Y := 997920) (by omega) (by omega)
    have cw : ¬ (720 : Int32) ≤ nI w := nI_ge (b := 720) (by omega) (by decide)
    rw [zcn] at t1
    rw [nI_0] at q1 r1
    have st : s_X10_findChance_L26 (f + 1) (lI u) (lI l) (nI (zcn (fun w => zWay c b N (fun s => (ztc 6 0 w id).getD s 0)) w)) (nI w) h = s_X10_findChance_L41 (s_X10_findChance_L26 f) zFU (lI u) (lI l) (nI (zcn (fun w => zWay c b N (fun s => (ztc 6 0 w id).getD s 0)) w)) (nI w) (nI w) 0 h := by
      rw [s_X10_findChance_L26, if_neg cw]
    rw [st, q1, r1, s1, zbs rfl]
    simp only [s3.1, s3.2, lI_mul, lI_lt (zBna n1 (by decide)) (zBna n2 (by decide)), cmp, s_X10_findChance_L182, Option.bind_some, nI_1]
    by_cases e : zef c (fun s => b ((ztc 6 0 w id).getD s 0)) N 6 ≤ zef c b N 6
    · rw [show zWay c b N (fun s => (ztc 6 0 w id).getD s 0) = true from decide_eq_true e] at t1
      simp only [reduceIte] at t1
      rw [if_neg (by omega)]
      exact t1
    · rw [show zWay c b N (fun s => (ztc 6 0 w id).getD s 0) = false from decide_eq_false e] at t1
      simp only [Bool.false_eq_true, reduceIte, Nat.add_zero] at t1
      rw [if_pos (by omega), Int32.add_zero]
      exact t1
theorem zcn_0 (p : Nat → Bool) : zcn p 0 = 0 := rfl
theorem m_chance {h : zHp} {c b : Nat → Nat} (H : zTB h c b) {N S : Nat} (eN : N = zcn (fun i => znv (b i)) 6) (eS : S = zcn (fun i => zstd (b i)) 6) : ∃ h1 : zHp, s_X10_findChance h = some (if 0 < N ∧ 0 < S then nI (zcn (fun w => zWay c b N (fun s => (ztc 6 0 w id).getD s 0)) 720) else -9, h1) ∧ (∀ k, k ≠ 115 → k ≠ 116 → h1.1 k = h.1 k) := by
  obtain ⟨h1, q1, q2, q3⟩ := m_true H eN eS
  by_cases c0 : 0 < N ∧ 0 < S
  · have q3 := q3 c0.1 c0.2
    unfold zst2 at q3
    rw [if_pos c0] at q1
    obtain ⟨h2, r1, r2⟩ := m_ways1 (c := c) eN eS c0.1 c0.2 720 0 zFU h1 (by omega) (zFU_gt (by decide)) (zTB_same H (q2 113 (by decide)) (q2 114 (by decide)))
    rw [zcn_0, nI_0, ← q3.1, ← q3.2] at r1
    refine ⟨h2, ?_, fun k k1 k2 => by rw [r2 k k1 k2, q2 k k1]⟩
    rw [if_pos c0]
    unfold s_X10_findChance
    rw [q1, zbs rfl, if_neg z10, Option.bind_some, Option.bind_some]
    exact r1
  · rw [if_neg c0] at q1
    refine ⟨h1, ?_, fun k k1 k2 => q2 k k1⟩
    rw [if_neg c0]
    unfold s_X10_findChance
    rw [q1, zbs rfl, if_pos rfl]
theorem zef_congr {c D D' : Nat → Nat} {N : Nat} (h : ∀ s, s < 6 → D s = D' s) : ∀ n, n ≤ 6 → zef c D N n = zef c D' N n := by
  have k : ∀ m n, n ≤ 6 → znr c D m n = znr c D' m n := fun m n => by
    induction n with
    | zero => intro _; rfl
    | succ n ih => intro hn; rw [znr, znr, ih (by omega), h n (by omega)]
  intro n
  induction n with
  | zero => intro _; rfl
  | succ n ih => intro hn; rw [zef, zef, ih (by omega), h n (by omega), k _ 6 (Nat.le_refl 6)]
theorem zways2 (c b : Nat → Nat) (N : Nat) : zcn (fun w => zWay c b N (fun s => (zdc 6 w id).getD s 0)) 720 = zcn (fun w => zWay c b N (fun s => (ztc 6 0 w id).getD s 0)) 720 :=
  zways_eq (zWay c b N) (fun f g hfg => by
    unfold zWay
    rw [zef_congr (fun s hs => by rw [hfg s hs]) 6 (Nat.le_refl 6)])
theorem zTB_of {h : zHp} (hr : zIr h) : zTB h (fun r => (h.1 61 r).toNatClampNeg) (fun j => (h.1 60 j).toNatClampNeg) := by
  have := zTC_of hr
  unfold zTB
  rw [← hr.1.1, ← hr.1.2]
  exact this
theorem e_rfl2 (h : zHp) : s_X9_refusedLong (-2) h = some (4000000000000000002, zr1 h 2) := by
  unfold s_X9_refusedLong; rw [e_rf2, zbs rfl, show (4000000000000000000 : Int64) - (-2 : Int32).toInt64 = 4000000000000000002 from by decide +kernel]
theorem e_rfl1 (h : zHp) : s_X9_refusedLong (-1) h = some (4000000000000000001, zr1 h 1) := by
  unfold s_X9_refusedLong; rw [e_rf1, zbs rfl, show (4000000000000000000 : Int64) - (-1 : Int32).toInt64 = 4000000000000000001 from by decide +kernel]
theorem e_rfl3 (h : zHp) : s_X9_refusedLong (-3) h = some (4000000000000000003, zr1 h 3) := by
  unfold s_X9_refusedLong; rw [e_rf3, zbs rfl, show (4000000000000000000 : Int64) - (-3 : Int32).toInt64 = 4000000000000000003 from by decide +kernel]
theorem e_mfl1 (h : zHp) : s_X10_refuseFar (-1) h = some (4000000000000000001, zr2 h 1) := by
  unfold s_X10_refuseFar
  rw [zbs rfl, show (-(-1 : Int32)) = nI 1 from by decide, zbs (zri_ok (by decide) (by decide)), zbs (zui_ok (by decide) (by decide))]
  rfl
theorem e_mfl2 (h : zHp) : s_X10_refuseFar (-2) h = some (4000000000000000002, zr2 h 2) := by
  unfold s_X10_refuseFar
  rw [zbs rfl, show (-(-2 : Int32)) = nI 2 from by decide, zbs (zri_ok (by decide) (by decide)), zbs (zui_ok (by decide) (by decide))]
  rfl
theorem e_mfl3 (h : zHp) : s_X10_refuseFar (-3) h = some (4000000000000000003, zr2 h 3) := by
  unfold s_X10_refuseFar
  rw [zbs rfl, show (-(-3 : Int32)) = nI 3 from by decide, zbs (zri_ok (by decide) (by decide)), zbs (zui_ok (by decide) (by decide))]
  rfl
theorem zopL_r1 {f g : zHp → Option (Int64 × zHp)} {h : zHp} (hI : zI h) (hf : f h = s_X9_refusedLong (-1) h) (hg : g (zr1 h 1) = s_X10_refuseFar (-1) (zr1 h 1)) : zopL f g h :=
  ⟨_, _, hf.trans (e_rfl1 h), hg.trans (e_mfl1 _), rfl, zI_ref 1 hI⟩
theorem zopL_r2 {f g : zHp → Option (Int64 × zHp)} {h : zHp} (hI : zI h) (hf : f h = s_X9_refusedLong (-2) h) (hg : g (zr1 h 2) = s_X10_refuseFar (-2) (zr1 h 2)) : zopL f g h :=
  ⟨_, _, hf.trans (e_rfl2 h), hg.trans (e_mfl2 _), rfl, zI_ref 2 hI⟩
theorem zopL_ok {f g : zHp → Option (Int64 × zHp)} {h h1 h2 : zHp} {r : Int64} (hf : f h = some (r, h1)) (hg : g h1 = some (r, h2)) (hI : zI h2) : zopL f g h := ⟨_, _, hf, hg, rfl, hI⟩
/-- a refusal behind work in the cells of a call -/
theorem zI_ref2 {h h' : zHp} (k : Nat) (hs : zSame (zr1 h k) h') (hI : zI h) : zI (zr2 h' k) := by
  obtain ⟨t, nc, nk, nl, nt, np, h1, h2, h3, h4, h5, h6, h7, h8, h9⟩ := hI
  have h88 : h'.1 88 = h.1 88 := (hs.1 88 (by decide)).trans rfl
  have h01 : h'.1 1 = upd (h.1 1) k (h.1 1 k + 1) := (hs.1 1 (by decide)).trans zwi_self
  have hs' : zSame (zr2 (zr1 h k) k) (zr2 h' k) := by
    refine ⟨fun j hj => ?_, fun j j1 j2 => ?_⟩
    · by_cases e : j = 88
      · subst e
        show (zwi h' 88 k (h'.1 88 k + 1)).1 88 = (zwi (zr1 h k) 88 k ((zr1 h k).1 88 k + 1)).1 88
        rw [zwi_self, zwi_self, hs.1 88 (by decide)]
      · show (zwi h' 88 k (h'.1 88 k + 1)).1 j = (zwi (zr1 h k) 88 k ((zr1 h k).1 88 k + 1)).1 j
        rw [zwi_ne j e, zwi_ne j e]
        exact hs.1 j hj
    · show (zwi h' 88 k (h'.1 88 k + 1)).1 67 j = (zwi (zr1 h k) 88 k ((zr1 h k).1 88 k + 1)).1 67 j
      rw [zwi_ne 67 (by decide), zwi_ne 67 (by decide)]
      exact hs.2 j j1 j2
  exact zI_same hs' (zI_ref k ⟨t, nc, nk, nl, nt, np, h1, h2, h3, h4, h5, h6, h7, h8, h9⟩)
theorem zSame2 {h h1 : zHp} {p q : Nat} (hp : zscr p = true) (hq : zscr q = true) (p7 : p ≠ 67) (q7 : q ≠ 67) (e : ∀ k, k ≠ p → k ≠ q → h1.1 k = h.1 k) : zSame h h1 :=
  ⟨fun k hk => e k (fun z => by rw [z, hp] at hk; cases hk) (fun z => by rw [z, hq] at hk; cases hk), fun j _ _ => by rw [e 67 (fun z => p7 z.symm) (fun z => q7 z.symm)]⟩
theorem op_effect (a1 : Int32) {h : zHp} (hI : zI h) : zopL (s_X9_effect a1) (s_X10_effect a1) h := by
  have hI0 := hI
  obtain ⟨t, nc, nk, nl, nt, np, hN⟩ := hI
  have hr : zIr h := hN.2.2.2.2.2.2.2.2
  by_cases c1 : a1 < 0
  · refine zopL_r2 hI0 ?_ ?_
    · simp only [s_X9_effect, s_X9_effect_L9, c1, reduceIte, zbq]
    · simp only [s_X10_effect, e_in0 (Or.inl c1), Option.bind_some, reduceIte, zbq]
  by_cases c2 : ¬ a1 ≤ 1
  · refine zopL_r2 hI0 ?_ ?_
    · simp only [s_X9_effect, s_X9_effect_L9, c1, c2, reduceIte, zbq]
    · simp only [s_X10_effect, e_in0 (Or.inr (znle.mp c2)), Option.bind_some, reduceIte, zbq]
  have c2 := Decidable.not_not.mp c2
  have v3 : ∀ h' : zHp, s_X10_in a1 0 1 h' = some (1, h') := fun h' => e_in1 c1 (znlt.mpr c2)
  have H := zTC_of hr
  have hh := e_has H
  by_cases c3 : 0 < zcn (fun i => znv ((fun j => (h.1 60 j).toNatClampNeg) i)) 6 ∧ 0 < zcn (fun i => zstd ((fun j => (h.1 60 j).toNatClampNeg) i)) 6
  · rw [if_pos c3] at hh
    obtain ⟨h1, q1, q2, q3, q4⟩ := e_true H c3.1 c3.2
    have hs : zSame h h1 := ⟨fun k _ => by rw [q2], fun j _ _ => by rw [q2]⟩
    have HB : zTB h1 _ _ := zTB_same (zTB_of hr) (by rw [q2]) (by rw [q2])
    obtain ⟨h2, r1, r2, r3⟩ := m_true HB rfl rfl
    rw [if_pos c3] at r1
    have r3 := r3 c3.1 c3.2
    have hs2 : zSame h h2 := hs.tr (zSame2 (p := 115) (q := 116) (by decide) (by decide) (by decide) (by decide) (fun k k1 _ => r2 k k1))
    by_cases c5 : a1 = 0
    · refine zopL_ok (r := h1.2 65 0) (h1 := h1) (h2 := h2) ?_ ?_ (zI_same hs2 hI0)
      · simp only [s_X9_effect, c1, c2, reduceIte, hh, Option.bind_some, z10, q1, s_X2_piece_65, s_X2_piece_65_L15, if_pos c5]
      · simp only [s_X10_effect, v3, Option.bind_some, z10, reduceIte, r1, if_pos c5, s_X10_effect_L45]
        rw [r3.1, q3]
    · refine zopL_ok (r := h1.2 65 1) (h1 := h1) (h2 := h2) ?_ ?_ (zI_same hs2 hI0)
      · simp only [s_X9_effect, c1, c2, reduceIte, hh, Option.bind_some, z10, q1, s_X2_piece_65, s_X2_piece_65_L15, if_neg c5]
      · simp only [s_X10_effect, v3, Option.bind_some, z10, reduceIte, r1, if_neg c5, s_X10_effect_L45]
        rw [r3.2, q4]
  · rw [if_neg c3] at hh
    have HB : zTB (zr1 h 3) (fun r => (h.1 61 r).toNatClampNeg) (fun j => (h.1 60 j).toNatClampNeg) := zTB_same (zTB_of hr) rfl rfl
    obtain ⟨h2, r1, r2, r3⟩ := m_true HB rfl rfl
    rw [if_neg c3] at r1
    have hs : zSame (zr1 h 3) h2 := zSame2 (p := 115) (q := 116) (by decide) (by decide) (by decide) (by decide) (fun k k1 _ => r2 k k1)
    refine ⟨(4000000000000000003, zr1 h 3), (4000000000000000003, zr2 h2 3), ?_, ?_, rfl, zI_ref2 3 hs hI0⟩
    · simp only [s_X9_effect, c1, c2, reduceIte, hh, Option.bind_some, e_rfl3]
    · simp only [s_X10_effect, v3, Option.bind_some, z10, reduceIte, r1, e_mfl3]
theorem op_chance {h : zHp} (hI : zI h) : zop s_X9_chance s_X10_chance h := by
  have hI0 := hI
  obtain ⟨t, nc, nk, nl, nt, np, hN⟩ := hI
  have hr : zIr h := hN.2.2.2.2.2.2.2.2
  have H := zTC_of hr
  have hh := e_has H
  by_cases c3 : 0 < zcn (fun i => znv ((fun j => (h.1 60 j).toNatClampNeg) i)) 6 ∧ 0 < zcn (fun i => zstd ((fun j => (h.1 60 j).toNatClampNeg) i)) 6
  · rw [if_pos c3] at hh
    obtain ⟨h1, q1, q2⟩ := e_ways H
    have hs : zSame h h1 := zSame2 (p := 63) (q := 64) (by decide) (by decide) (by decide) (by decide) q2
    have HB : zTB h1 _ _ := zTB_same (zTB_of hr) (q2 113 (by decide) (by decide)) (q2 114 (by decide) (by decide))
    obtain ⟨h2, r1, r2⟩ := m_chance HB rfl rfl
    rw [if_pos c3, ← zways2] at r1
    have hs2 : zSame h h2 := hs.tr (zSame2 (p := 115) (q := 116) (by decide) (by decide) (by decide) (by decide) r2)
    refine zop_ok (r := nI (zcn (fun w => zWay (fun r => (h.1 61 r).toNatClampNeg) (fun j => (h.1 60 j).toNatClampNeg) (zcn (fun i => znv ((fun j => (h.1 60 j).toNatClampNeg) i)) 6) (fun s => (zdc 6 w id).getD s 0)) 720)) (h1 := h1) (h2 := h2) ?_ ?_ (zI_same hs2 hI0)
    · simp only [s_X9_chance, s_X9_chance_L22, hh, Option.bind_some, z10, reduceIte]
      rw [q1]
      rfl
    · unfold s_X10_chance
      rw [r1]
      rfl
  · rw [if_neg c3] at hh
    obtain ⟨h2, r1, r2⟩ := m_chance (zTB_of hr) rfl rfl
    rw [if_neg c3] at r1
    have hs2 : zSame h h2 := zSame2 (p := 115) (q := 116) (by decide) (by decide) (by decide) (by decide) r2
    refine zop_ok (r := -9) (h1 := h) (h2 := h2) ?_ ?_ (zI_same hs2 hI0)
    · simp only [s_X9_chance, s_X9_chance_L22, hh, Option.bind_some, reduceIte]
    · unfold s_X10_chance
      rw [r1]
      rfl
theorem op_helped {h : zHp} (hI : zI h) : zop s_X9_helped s_X10_helped h := by
  have hI0 := hI
  obtain ⟨t, nc, nk, nl, nt, np, hN⟩ := hI
  have hr : zIr h := hN.2.2.2.2.2.2.2.2
  have H := zTC_of hr
  have HB0 := zTB_of hr
  generalize (fun r => (h.1 61 r).toNatClampNeg) = c at *
  generalize (fun j => (h.1 60 j).toNatClampNeg) = b at *
  have hh := e_has H
  generalize eN : zcn (fun i => znv (b i)) 6 = N at *
  generalize eS : zcn (fun i => zstd (b i)) 6 = S at *
  by_cases c3 : 0 < N ∧ 0 < S
  · rw [if_pos c3] at hh
    have hN6 : N ≤ 6 := by rw [← eN]; exact zcn_le _ 6
    have hS6 : S ≤ 6 := by rw [← eS]; exact zcn_le _ 6
    have hL : (0 : Int) < 27720 * N * S := Int.mul_pos (by omega) (by omega)
    have X0 := zef_rng (c := c) (D := b) (fun r hr => (H.2 r hr).2) hN6 6 (Nat.le_refl 6)
    obtain ⟨h1, q1, q2, q3, q4⟩ := e_true H (by rw [eN]; exact c3.1) (by rw [eS]; exact c3.2)
    rw [eN, eS] at q3
    obtain ⟨_, u, l, _, _, _, e3, e4, l0, l1, u1⟩ := zlow (X := zef c b N 6) hL
    rw [e3] at q3
    have bu : zB u := ⟨by omega, by omega⟩
    have hs : zSame h h1 := ⟨fun k _ => by rw [q2], fun j _ _ => by rw [q2]⟩
    have H1 : zTC h1 c b := zTC_same H (by rw [q2]) (by rw [q2])
    have main : ∀ h' : zHp, zSame h h' → h'.1 113 = h.1 113 → h'.1 114 = h.1 114 → ∃ h2 h3 : zHp, s_X10_findChance h' = some (nI (zcn (fun w => zWay c b N (fun s => (zdc 6 w id).getD s 0)) 720), h2) ∧ s_X10_findTrue h2 = some (1, h3) ∧ h3.2 67 59 = lI u ∧ zSame h h3 := fun h' s' e1 e2 => by
      have HB : zTB h' c b := zTB_same HB0 e1 e2
      obtain ⟨h2, r1, r2⟩ := m_chance HB eN.symm eS.symm
      rw [if_pos c3, ← zways2] at r1
      have HB2 : zTB h2 c b := zTB_same HB (r2 113 (by decide) (by decide)) (r2 114 (by decide) (by decide))
      obtain ⟨h3, t1, t2, t3⟩ := m_true HB2 eN.symm eS.symm
      rw [if_pos c3] at t1
      have t3 := (t3 c3.1 c3.2).1
      rw [e3] at t3
      exact ⟨h2, h3, r1, t1, t3, (s'.tr (zSame2 (p := 115) (q := 116) (by decide) (by decide) (by decide) (by decide) r2)).tr (zSame2 (p := 115) (q := 116) (by decide) (by decide) (by decide) (by decide) (fun k k1 _ => t2 k k1))⟩
    have nle := zcn_le (fun w => zWay c b N (fun s => (zdc 6 w id).getD s 0)) 720
    have n9 : ∀ n, n ≤ 720 → ¬ nI n = -9 := fun n hn z => by
      have : (nI n).toInt = (-9 : Int32).toInt := by rw [z]
      rw [nI_toInt (by omega), show (-9 : Int32).toInt = -9 from by decide] at this
      omega
    by_cases c4 : u < 0
    · obtain ⟨g, g1, g2⟩ := e_ways H1
      rw [eN] at g1
      have hs2 : zSame h g := hs.tr (zSame2 (p := 63) (q := 64) (by decide) (by decide) (by decide) (by decide) g2)
      obtain ⟨h2, h3, r1, r2, r3, r4⟩ := main g hs2 (by rw [g2 113 (by decide) (by decide), q2]) (by rw [g2 114 (by decide) (by decide), q2])
      generalize zcn (fun w => zWay c b N (fun s => (zdc 6 w id).getD s 0)) 720 = n at *
      have d0 : lI u < 0 := (lI_lt0 bu).mpr c4
      have d1 : ¬ (0 : Int64) ≤ lI u := fun z => by rw [lI_ge0 bu] at z; omega
      by_cases c5 : (36 : Int32) < nI n
      · refine zop_ok (r := 0) (h1 := g) (h2 := h3) ?_ ?_ (zI_same r4 hI0)
        · simp only [s_X9_helped, s_X9_helped_L45, hh, Option.bind_some, z10, reduceIte, q1, s_X2_piece_65, s_X2_piece_65_L15, q3, d0, g1, c5]
        · simp only [s_X10_helped, s_X10_helped_L35, s_X10_helped_L36, r1, r2, Option.bind_some, n9 n nle, reduceIte, c5]
      · refine zop_ok (r := 1) (h1 := g) (h2 := h3) ?_ ?_ (zI_same r4 hI0)
        · simp only [s_X9_helped, s_X9_helped_L45, hh, Option.bind_some, z10, reduceIte, q1, s_X2_piece_65, s_X2_piece_65_L15, q3, d0, g1, c5]
        · simp only [s_X10_helped, s_X10_helped_L35, s_X10_helped_L36, r1, r2, Option.bind_some, n9 n nle, reduceIte, c5, r3, d1]
    · obtain ⟨h2, h3, r1, r2, r3, r4⟩ := main h1 hs (by rw [q2]) (by rw [q2])
      generalize zcn (fun w => zWay c b N (fun s => (zdc 6 w id).getD s 0)) 720 = n at *
      have d0 : ¬ lI u < 0 := fun z => by rw [lI_lt0 bu] at z; omega
      have d1 : (0 : Int64) ≤ lI u := (lI_ge0 bu).mpr (by omega)
      refine zop_ok (r := 0) (h1 := h1) (h2 := h3) ?_ ?_ (zI_same r4 hI0)
      · simp only [s_X9_helped, s_X9_helped_L26, hh, Option.bind_some, z10, reduceIte, q1, s_X2_piece_65, s_X2_piece_65_L15, q3, d0]
      · simp only [s_X10_helped, s_X10_helped_L35, s_X10_helped_L36, r1, r2, Option.bind_some, n9 n nle, reduceIte, r3, d1, ite_self]
  · rw [if_neg c3] at hh
    obtain ⟨h2, r1, r2⟩ := m_chance HB0 eN.symm eS.symm
    rw [if_neg c3] at r1
    have HB2 : zTB h2 c b := zTB_same HB0 (r2 113 (by decide) (by decide)) (r2 114 (by decide) (by decide))
    obtain ⟨h3, t1, t2, t3⟩ := m_true HB2 eN.symm eS.symm
    have hs2 : zSame h h3 := (zSame2 (p := 115) (q := 116) (by decide) (by decide) (by decide) (by decide) r2).tr (zSame2 (p := 115) (q := 116) (by decide) (by decide) (by decide) (by decide) (fun k k1 _ => t2 k k1))
    refine zop_ok (r := 0) (h1 := h) (h2 := h3) ?_ ?_ (zI_same hs2 hI0)
    · simp only [s_X9_helped, s_X9_helped_L26, hh, Option.bind_some, reduceIte]
    · simp only [s_X10_helped, s_X10_helped_L35, s_X10_helped_L36, r1, t1, Option.bind_some, reduceIte]

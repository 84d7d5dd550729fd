/-! ===== rounds: hands that fit into a day (the least cut) ===== -/
def y3 (x k : Nat) : Nat := if x.testBit k then 1 else 0
def zpc (x : Nat) : Nat := y3 x 0 + y3 x 1 + y3 x 2
def zpd (f H : Nat) : Nat := zpc (f &&& (7 ^^^ H))
def zrM (r : Nat → Nat) (H : Nat) : Nat := y3 H 0 * r 0 + y3 H 1 * r 1 + y3 H 2 * r 2
theorem zrM0 (r : Nat → Nat) : zrM r 0 = 0 := by simp [zrM, y3]
theorem zrM1 (r : Nat → Nat) : zrM r 1 = r 0 := by simp [zrM, y3, Nat.testBit, Nat.shiftRight_eq_div_pow]
theorem zrM2 (r : Nat → Nat) : zrM r 2 = r 1 := by simp [zrM, y3, Nat.testBit, Nat.shiftRight_eq_div_pow]
theorem zrM3 (r : Nat → Nat) : zrM r 3 = r 0 + r 1 := by simp [zrM, y3, Nat.testBit, Nat.shiftRight_eq_div_pow]
theorem zrM4 (r : Nat → Nat) : zrM r 4 = r 2 := by simp [zrM, y3, Nat.testBit, Nat.shiftRight_eq_div_pow]
theorem zrM5 (r : Nat → Nat) : zrM r 5 = r 0 + r 2 := by simp [zrM, y3, Nat.testBit, Nat.shiftRight_eq_div_pow]
theorem zrM6 (r : Nat → Nat) : zrM r 6 = r 1 + r 2 := by simp [zrM, y3, Nat.testBit, Nat.shiftRight_eq_div_pow]
theorem zrM7 (r : Nat → Nat) : zrM r 7 = r 0 + r 1 + r 2 := by simp [zrM, y3, Nat.testBit, Nat.shiftRight_eq_div_pow]
def zopt (N f x : Nat) : Prop := x < 8 ∧ x &&& f = x ∧ zpc x = N
def zHg (b : Nat → Nat) (r : Nat → Nat) (N f : Nat) : Prop := ∃ x, zopt N f x ∧ (∀ k, k < 3 → y3 x k ≤ r k) ∧ ∀ H, H < 8 → b H ≤ zrM (fun k => r k - y3 x k) H
theorem zhx {b r : Nat → Nat} {N f : Nat} (x : Nat) (hx : zopt N f x) {p q s : Nat} (hp : y3 x 0 = p) (hq : y3 x 1 = q) (hs : y3 x 2 = s) (h0 : b 0 = 0) (h1 : b 1 + p ≤ r 0) (h2 : b 2 + q ≤ r 1) (h3 : b 3 + (p + q) ≤ r 0 + r 1) (h4 : b 4 + s ≤ r 2) (h5 : b 5 + (p + s) ≤ r 0 + r 2) (h6 : b 6 + (q + s) ≤ r 1 + r 2) (h7 : b 7 + (p + q + s) ≤ r 0 + r 1 + r 2) : zHg b r N f := by
  refine ⟨x, hx, fun k hk => ?_, fun H hH => ?_⟩
  · match k, hk with
    | 0, _ => omega
    | 1, _ => omega
    | 2, _ => omega
  · match H, hH with
    | 0, _ => rw [zrM0]; omega
    | 1, _ => rw [zrM1]; simp only [hp]; omega
    | 2, _ => rw [zrM2]; simp only [hq]; omega
    | 3, _ => rw [zrM3]; simp only [hp, hq]; omega
    | 4, _ => rw [zrM4]; simp only [hs]; omega
    | 5, _ => rw [zrM5]; simp only [hp, hs]; omega
    | 6, _ => rw [zrM6]; simp only [hq, hs]; omega
    | 7, _ => rw [zrM7]; simp only [hp, hq, hs]; omega
def zsup (b : Nat → Nat) : Prop := b 1 + b 2 ≤ b 3 + b 0 ∧ b 1 + b 4 ≤ b 5 + b 0 ∧ b 2 + b 4 ≤ b 6 + b 0 ∧ b 1 + b 6 ≤ b 7 + b 0 ∧ b 2 + b 5 ≤ b 7 + b 0 ∧ b 4 + b 3 ≤ b 7 + b 0 ∧ b 3 + b 5 ≤ b 7 + b 1 ∧ b 3 + b 6 ≤ b 7 + b 2 ∧ b 5 + b 6 ≤ b 7 + b 4
def zhyp (b r : Nat → Nat) (N f : Nat) : Prop := ∀ H, H < 8 → b H + (N - zpd f H) ≤ zrM r H
theorem zhyp_e {b r : Nat → Nat} {N f : Nat} (h : zhyp b r N f) {c0 c1 c2 c3 c4 c5 c6 c7 : Nat} (k0 : N - zpd f 0 = c0) (k1 : N - zpd f 1 = c1) (k2 : N - zpd f 2 = c2) (k3 : N - zpd f 3 = c3) (k4 : N - zpd f 4 = c4) (k5 : N - zpd f 5 = c5) (k6 : N - zpd f 6 = c6) (k7 : N - zpd f 7 = c7) : b 0 + c0 ≤ 0 ∧ b 1 + c1 ≤ r 0 ∧ b 2 + c2 ≤ r 1 ∧ b 3 + c3 ≤ r 0 + r 1 ∧ b 4 + c4 ≤ r 2 ∧ b 5 + c5 ≤ r 0 + r 2 ∧ b 6 + c6 ≤ r 1 + r 2 ∧ b 7 + c7 ≤ r 0 + r 1 + r 2 := by
  have a0 := h 0 (by decide)
  have a1 := h 1 (by decide)
  have a2 := h 2 (by decide)
  have a3 := h 3 (by decide)
  have a4 := h 4 (by decide)
  have a5 := h 5 (by decide)
  have a6 := h 6 (by decide)
  have a7 := h 7 (by decide)
  rw [zrM0, k0] at a0
  rw [zrM1, k1] at a1
  rw [zrM2, k2] at a2
  rw [zrM3, k3] at a3
  rw [zrM4, k4] at a4
  rw [zrM5, k5] at a5
  rw [zrM6, k6] at a6
  rw [zrM7, k7] at a7
  exact ⟨a0, a1, a2, a3, a4, a5, a6, a7⟩
theorem zhk10 {b r : Nat → Nat} (hs : zsup b) (h : zhyp b r 1 0) : zHg b r 1 0 := by
  have q := zhyp_e h (k0 := (by decide : 1 - zpd 0 0 = 1)) (k1 := (by decide : 1 - zpd 0 1 = 1)) (k2 := (by decide : 1 - zpd 0 2 = 1)) (k3 := (by decide : 1 - zpd 0 3 = 1)) (k4 := (by decide : 1 - zpd 0 4 = 1)) (k5 := (by decide : 1 - zpd 0 5 = 1)) (k6 := (by decide : 1 - zpd 0 6 = 1)) (k7 := (by decide : 1 - zpd 0 7 = 1))
  obtain ⟨a0, a1, a2, a3, a4, a5, a6, a7⟩ := q
  omega
theorem zhk11 {b r : Nat → Nat} (hs : zsup b) (h : zhyp b r 1 1) : zHg b r 1 1 := by
  have q := zhyp_e h (k0 := (by decide : 1 - zpd 1 0 = 0)) (k1 := (by decide : 1 - zpd 1 1 = 1)) (k2 := (by decide : 1 - zpd 1 2 = 0)) (k3 := (by decide : 1 - zpd 1 3 = 1)) (k4 := (by decide : 1 - zpd 1 4 = 0)) (k5 := (by decide : 1 - zpd 1 5 = 1)) (k6 := (by decide : 1 - zpd 1 6 = 0)) (k7 := (by decide : 1 - zpd 1 7 = 1))
  obtain ⟨a0, a1, a2, a3, a4, a5, a6, a7⟩ := q
  obtain ⟨s1, s2, s3, s4, s5, s6, s7, s8, s9⟩ := hs
  have z0 : b 0 = 0 := by omega
  have d : (b 1 + 1 ≤ r 0 ∧ b 2 + 0 ≤ r 1 ∧ b 3 + (1 + 0) ≤ r 0 + r 1 ∧ b 4 + 0 ≤ r 2 ∧ b 5 + (1 + 0) ≤ r 0 + r 2 ∧ b 6 + (0 + 0) ≤ r 1 + r 2 ∧ b 7 + (1 + 0 + 0) ≤ r 0 + r 1 + r 2) := by omega
  rcases d with ⟨e1, e2, e3, e4, e5, e6, e7⟩
  · exact zhx 1 (by unfold zopt; decide) (p := 1) (q := 0) (s := 0) (by decide) (by decide) (by decide) z0 e1 e2 e3 e4 e5 e6 e7
theorem zhk12 {b r : Nat → Nat} (hs : zsup b) (h : zhyp b r 1 2) : zHg b r 1 2 := by
  have q := zhyp_e h (k0 := (by decide : 1 - zpd 2 0 = 0)) (k1 := (by decide : 1 - zpd 2 1 = 0)) (k2 := (by decide : 1 - zpd 2 2 = 1)) (k3 := (by decide : 1 - zpd 2 3 = 1)) (k4 := (by decide : 1 - zpd 2 4 = 0)) (k5 := (by decide : 1 - zpd 2 5 = 0)) (k6 := (by decide : 1 - zpd 2 6 = 1)) (k7 := (by decide : 1 - zpd 2 7 = 1))
  obtain ⟨a0, a1, a2, a3, a4, a5, a6, a7⟩ := q
  obtain ⟨s1, s2, s3, s4, s5, s6, s7, s8, s9⟩ := hs
  have z0 : b 0 = 0 := by omega
  have d : (b 1 + 0 ≤ r 0 ∧ b 2 + 1 ≤ r 1 ∧ b 3 + (0 + 1) ≤ r 0 + r 1 ∧ b 4 + 0 ≤ r 2 ∧ b 5 + (0 + 0) ≤ r 0 + r 2 ∧ b 6 + (1 + 0) ≤ r 1 + r 2 ∧ b 7 + (0 + 1 + 0) ≤ r 0 + r 1 + r 2) := by omega
  rcases d with ⟨e1, e2, e3, e4, e5, e6, e7⟩
  · exact zhx 2 (by unfold zopt; decide) (p := 0) (q := 1) (s := 0) (by decide) (by decide) (by decide) z0 e1 e2 e3 e4 e5 e6 e7
theorem zhk13 {b r : Nat → Nat} (hs : zsup b) (h : zhyp b r 1 3) : zHg b r 1 3 := by
  have q := zhyp_e h (k0 := (by decide : 1 - zpd 3 0 = 0)) (k1 := (by decide : 1 - zpd 3 1 = 0)) (k2 := (by decide : 1 - zpd 3 2 = 0)) (k3 := (by decide : 1 - zpd 3 3 = 1)) (k4 := (by decide : 1 - zpd 3 4 = 0)) (k5 := (by decide : 1 - zpd 3 5 = 0)) (k6 := (by decide : 1 - zpd 3 6 = 0)) (k7 := (by decide : 1 - zpd 3 7 = 1))
  obtain ⟨a0, a1, a2, a3, a4, a5, a6, a7⟩ := q
  obtain ⟨s1, s2, s3, s4, s5, s6, s7, s8, s9⟩ := hs
  have z0 : b 0 = 0 := by omega
  have d : (b 1 + 1 ≤ r 0 ∧ b 2 + 0 ≤ r 1 ∧ b 3 + (1 + 0) ≤ r 0 + r 1 ∧ b 4 + 0 ≤ r 2 ∧ b 5 + (1 + 0) ≤ r 0 + r 2 ∧ b 6 + (0 + 0) ≤ r 1 + r 2 ∧ b 7 + (1 + 0 + 0) ≤ r 0 + r 1 + r 2) ∨ (b 1 + 0 ≤ r 0 ∧ b 2 + 1 ≤ r 1 ∧ b 3 + (0 + 1) ≤ r 0 + r 1 ∧ b 4 + 0 ≤ r 2 ∧ b 5 + (0 + 0) ≤ r 0 + r 2 ∧ b 6 + (1 + 0) ≤ r 1 + r 2 ∧ b 7 + (0 + 1 + 0) ≤ r 0 + r 1 + r 2) := by omega
  rcases d with ⟨e1, e2, e3, e4, e5, e6, e7⟩ | ⟨e1, e2, e3, e4, e5, e6, e7⟩
  · exact zhx 1 (by unfold zopt; decide) (p := 1) (q := 0) (s := 0) (by decide) (by decide) (by decide) z0 e1 e2 e3 e4 e5 e6 e7
  · exact zhx 2 (by unfold zopt; decide) (p := 0) (q := 1) (s := 0) (by decide) (by decide) (by decide) z0 e1 e2 e3 e4 e5 e6 e7
theorem zhk14 {b r : Nat → Nat} (hs : zsup b) (h : zhyp b r 1 4) : zHg b r 1 4 := by
  have q := zhyp_e h (k0 := (by decide : 1 - zpd 4 0 = 0)) (k1 := (by decide : 1 - zpd 4 1 = 0)) (k2 := (by decide : 1 - zpd 4 2 = 0)) (k3 := (by decide : 1 - zpd 4 3 = 0)) (k4 := (by decide : 1 - zpd 4 4 = 1)) (k5 := (by decide : 1 - zpd 4 5 = 1)) (k6 := (by decide : 1 - zpd 4 6 = 1)) (k7 := (by decide : 1 - zpd 4 7 = 1))
  obtain ⟨a0, a1, a2, a3, a4, a5, a6, a7⟩ := q
  obtain ⟨s1, s2, s3, s4, s5, s6, s7, s8, s9⟩ := hs
  have z0 : b 0 = 0 := by omega
  have d : (b 1 + 0 ≤ r 0 ∧ b 2 + 0 ≤ r 1 ∧ b 3 + (0 + 0) ≤ r 0 + r 1 ∧ b 4 + 1 ≤ r 2 ∧ b 5 + (0 + 1) ≤ r 0 + r 2 ∧ b 6 + (0 + 1) ≤ r 1 + r 2 ∧ b 7 + (0 + 0 + 1) ≤ r 0 + r 1 + r 2) := by omega
  rcases d with ⟨e1, e2, e3, e4, e5, e6, e7⟩
  · exact zhx 4 (by unfold zopt; decide) (p := 0) (q := 0) (s := 1) (by decide) (by decide) (by decide) z0 e1 e2 e3 e4 e5 e6 e7
theorem zhk15 {b r : Nat → Nat} (hs : zsup b) (h : zhyp b r 1 5) : zHg b r 1 5 := by
  have q := zhyp_e h (k0 := (by decide : 1 - zpd 5 0 = 0)) (k1 := (by decide : 1 - zpd 5 1 = 0)) (k2 := (by decide : 1 - zpd 5 2 = 0)) (k3 := (by decide : 1 - zpd 5 3 = 0)) (k4 := (by decide : 1 - zpd 5 4 = 0)) (k5 := (by decide : 1 - zpd 5 5 = 1)) (k6 := (by decide : 1 - zpd 5 6 = 0)) (k7 := (by decide : 1 - zpd 5 7 = 1))
  obtain ⟨a0, a1, a2, a3, a4, a5, a6, a7⟩ := q
  obtain ⟨s1, s2, s3, s4, s5, s6, s7, s8, s9⟩ := hs
  have z0 : b 0 = 0 := by omega
  have d : (b 1 + 1 ≤ r 0 ∧ b 2 + 0 ≤ r 1 ∧ b 3 + (1 + 0) ≤ r 0 + r 1 ∧ b 4 + 0 ≤ r 2 ∧ b 5 + (1 + 0) ≤ r 0 + r 2 ∧ b 6 + (0 + 0) ≤ r 1 + r 2 ∧ b 7 + (1 + 0 + 0) ≤ r 0 + r 1 + r 2) ∨ (b 1 + 0 ≤ r 0 ∧ b 2 + 0 ≤ r 1 ∧ b 3 + (0 + 0) ≤ r 0 + r 1 ∧ b 4 + 1 ≤ r 2 ∧ b 5 + (0 + 1) ≤ r 0 + r 2 ∧ b 6 + (0 + 1) ≤ r 1 + r 2 ∧ b 7 + (0 + 0 + 1) ≤ r 0 + r 1 + r 2) := by omega
  rcases d with ⟨e1, e2, e3, e4, e5, e6, e7⟩ | ⟨e1, e2, e3, e4, e5, e6, e7⟩
  · exact zhx 1 (by unfold zopt; decide) (p := 1) (q := 0) (s := 0) (by decide) (by decide) (by decide) z0 e1 e2 e3 e4 e5 e6 e7
  · exact zhx 4 (by unfold zopt; decide) (p := 0) (q := 0) (s := 1) (by decide) (by decide) (by decide) z0 e1 e2 e3 e4 e5 e6 e7
theorem zhk16 {b r : Nat → Nat} (hs : zsup b) (h : zhyp b r 1 6) : zHg b r 1 6 := by
  have q := zhyp_e h (k0 := (by decide : 1 - zpd 6 0 = 0)) (k1 := (by decide : 1 - zpd 6 1 = 0)) (k2 := (by decide : 1 - zpd 6 2 = 0)) (k3 := (by decide : 1 - zpd 6 3 = 0)) (k4 := (by decide : 1 - zpd 6 4 = 0)) (k5 := (by decide : 1 - zpd 6 5 = 0)) (k6 := (by decide : 1 - zpd 6 6 = 1)) (k7 := (by decide : 1 - zpd 6 7 = 1))
  obtain ⟨a0, a1, a2, a3, a4, a5, a6, a7⟩ := q
  obtain ⟨s1, s2, s3, s4, s5, s6, s7, s8, s9⟩ := hs
  have z0 : b 0 = 0 := by omega
  have d : (b 1 + 0 ≤ r 0 ∧ b 2 + 1 ≤ r 1 ∧ b 3 + (0 + 1) ≤ r 0 + r 1 ∧ b 4 + 0 ≤ r 2 ∧ b 5 + (0 + 0) ≤ r 0 + r 2 ∧ b 6 + (1 + 0) ≤ r 1 + r 2 ∧ b 7 + (0 + 1 + 0) ≤ r 0 + r 1 + r 2) ∨ (b 1 + 0 ≤ r 0 ∧ b 2 + 0 ≤ r 1 ∧ b 3 + (0 + 0) ≤ r 0 + r 1 ∧ b 4 + 1 ≤ r 2 ∧ b 5 + (0 + 1) ≤ r 0 + r 2 ∧ b 6 + (0 + 1) ≤ r 1 + r 2 ∧ b 7 + (0 + 0 + 1) ≤ r 0 + r 1 + r 2) := by omega
  rcases d with ⟨e1, e2, e3, e4, e5, e6, e7⟩ | ⟨e1, e2, e3, e4, e5, e6, e7⟩
  · exact zhx 2 (by unfold zopt; decide) (p := 0) (q := 1) (s := 0) (by decide) (by decide) (by decide) z0 e1 e2 e3 e4 e5 e6 e7
  · exact zhx 4 (by unfold zopt; decide) (p := 0) (q := 0) (s := 1) (by decide) (by decide) (by decide) z0 e1 e2 e3 e4 e5 e6 e7
theorem zhk17 {b r : Nat → Nat} (hs : zsup b) (h : zhyp b r 1 7) : zHg b r 1 7 := by
  have q := zhyp_e h (k0 := (by decide : 1 - zpd 7 0 = 0)) (k1 := (by decide : 1 - zpd 7 1 = 0)) (k2 := (by decide : 1 - zpd 7 2 = 0)) (k3 := (by decide : 1 - zpd 7 3 = 0)) (k4 := (by decide : 1 - zpd 7 4 = 0)) (k5 := (by decide : 1 - zpd 7 5 = 0)) (k6 := (by decide : 1 - zpd 7 6 = 0)) (k7 := (by decide : 1 - zpd 7 7 = 1))
  obtain ⟨a0, a1, a2, a3, a4, a5, a6, a7⟩ := q
  obtain ⟨s1, s2, s3, s4, s5, s6, s7, s8, s9⟩ := hs
  have z0 : b 0 = 0 := by omega
  have d : (b 1 + 1 ≤ r 0 ∧ b 2 + 0 ≤ r 1 ∧ b 3 + (1 + 0) ≤ r 0 + r 1 ∧ b 4 + 0 ≤ r 2 ∧ b 5 + (1 + 0) ≤ r 0 + r 2 ∧ b 6 + (0 + 0) ≤ r 1 + r 2 ∧ b 7 + (1 + 0 + 0) ≤ r 0 + r 1 + r 2) ∨ (b 1 + 0 ≤ r 0 ∧ b 2 + 1 ≤ r 1 ∧ b 3 + (0 + 1) ≤ r 0 + r 1 ∧ b 4 + 0 ≤ r 2 ∧ b 5 + (0 + 0) ≤ r 0 + r 2 ∧ b 6 + (1 + 0) ≤ r 1 + r 2 ∧ b 7 + (0 + 1 + 0) ≤ r 0 + r 1 + r 2) ∨ (b 1 + 0 ≤ r 0 ∧ b 2 + 0 ≤ r 1 ∧ b 3 + (0 + 0) ≤ r 0 + r 1 ∧ b 4 + 1 ≤ r 2 ∧ b 5 + (0 + 1) ≤ r 0 + r 2 ∧ b 6 + (0 + 1) ≤ r 1 + r 2 ∧ b 7 + (0 + 0 + 1) ≤ r 0 + r 1 + r 2) := by omega
  rcases d with ⟨e1, e2, e3, e4, e5, e6, e7⟩ | ⟨e1, e2, e3, e4, e5, e6, e7⟩ | ⟨e1, e2, e3, e4, e5, e6, e7⟩
  · exact zhx 1 (by unfold zopt; decide) (p := 1) (q := 0) (s := 0) (by decide) (by decide) (by decide) z0 e1 e2 e3 e4 e5 e6 e7
  · exact zhx 2 (by unfold zopt; decide) (p := 0) (q := 1) (s := 0) (by decide) (by decide) (by decide) z0 e1 e2 e3 e4 e5 e6 e7
  · exact zhx 4 (by unfold zopt; decide) (p := 0) (q := 0) (s := 1) (by decide) (by decide) (by decide) z0 e1 e2 e3 e4 e5 e6 e7
theorem zhk20 {b r : Nat → Nat} (hs : zsup b) (h : zhyp b r 2 0) : zHg b r 2 0 := by
  have q := zhyp_e h (k0 := (by decide : 2 - zpd 0 0 = 2)) (k1 := (by decide : 2 - zpd 0 1 = 2)) (k2 := (by decide : 2 - zpd 0 2 = 2)) (k3 := (by decide : 2 - zpd 0 3 = 2)) (k4 := (by decide : 2 - zpd 0 4 = 2)) (k5 := (by decide : 2 - zpd 0 5 = 2)) (k6 := (by decide : 2 - zpd 0 6 = 2)) (k7 := (by decide : 2 - zpd 0 7 = 2))
  obtain ⟨a0, a1, a2, a3, a4, a5, a6, a7⟩ := q
  omega
theorem zhk21 {b r : Nat → Nat} (hs : zsup b) (h : zhyp b r 2 1) : zHg b r 2 1 := by
  have q := zhyp_e h (k0 := (by decide : 2 - zpd 1 0 = 1)) (k1 := (by decide : 2 - zpd 1 1 = 2)) (k2 := (by decide : 2 - zpd 1 2 = 1)) (k3 := (by decide : 2 - zpd 1 3 = 2)) (k4 := (by decide : 2 - zpd 1 4 = 1)) (k5 := (by decide : 2 - zpd 1 5 = 2)) (k6 := (by decide : 2 - zpd 1 6 = 1)) (k7 := (by decide : 2 - zpd 1 7 = 2))
  obtain ⟨a0, a1, a2, a3, a4, a5, a6, a7⟩ := q
  omega
theorem zhk22 {b r : Nat → Nat} (hs : zsup b) (h : zhyp b r 2 2) : zHg b r 2 2 := by
  have q := zhyp_e h (k0 := (by decide : 2 - zpd 2 0 = 1)) (k1 := (by decide : 2 - zpd 2 1 = 1)) (k2 := (by decide : 2 - zpd 2 2 = 2)) (k3 := (by decide : 2 - zpd 2 3 = 2)) (k4 := (by decide : 2 - zpd 2 4 = 1)) (k5 := (by decide : 2 - zpd 2 5 = 1)) (k6 := (by decide : 2 - zpd 2 6 = 2)) (k7 := (by decide : 2 - zpd 2 7 = 2))
  obtain ⟨a0, a1, a2, a3, a4, a5, a6, a7⟩ := q
  omega
theorem zhk23 {b r : Nat → Nat} (hs : zsup b) (h : zhyp b r 2 3) : zHg b r 2 3 := by
  have q := zhyp_e h (k0 := (by decide : 2 - zpd 3 0 = 0)) (k1 := (by decide : 2 - zpd 3 1 = 1)) (k2 := (by decide : 2 - zpd 3 2 = 1)) (k3 := (by decide : 2 - zpd 3 3 = 2)) (k4 := (by decide : 2 - zpd 3 4 = 0)) (k5 := (by decide : 2 - zpd 3 5 = 1)) (k6 := (by decide : 2 - zpd 3 6 = 1)) (k7 := (by decide : 2 - zpd 3 7 = 2))
  obtain ⟨a0, a1, a2, a3, a4, a5, a6, a7⟩ := q
  obtain ⟨s1, s2, s3, s4, s5, s6, s7, s8, s9⟩ := hs
  have z0 : b 0 = 0 := by omega
  have d : (b 1 + 1 ≤ r 0 ∧ b 2 + 1 ≤ r 1 ∧ b 3 + (1 + 1) ≤ r 0 + r 1 ∧ b 4 + 0 ≤ r 2 ∧ b 5 + (1 + 0) ≤ r 0 + r 2 ∧ b 6 + (1 + 0) ≤ r 1 + r 2 ∧ b 7 + (1 + 1 + 0) ≤ r 0 + r 1 + r 2) := by omega
  rcases d with ⟨e1, e2, e3, e4, e5, e6, e7⟩
  · exact zhx 3 (by unfold zopt; decide) (p := 1) (q := 1) (s := 0) (by decide) (by decide) (by decide) z0 e1 e2 e3 e4 e5 e6 e7
theorem zhk24 {b r : Nat → Nat} (hs : zsup b) (h : zhyp b r 2 4) : zHg b r 2 4 := by
  have q := zhyp_e h (k0 := (by decide : 2 - zpd 4 0 = 1)) (k1 := (by decide : 2 - zpd 4 1 = 1)) (k2 := (by decide : 2 - zpd 4 2 = 1)) (k3 := (by decide : 2 - zpd 4 3 = 1)) (k4 := (by decide : 2 - zpd 4 4 = 2)) (k5 := (by decide : 2 - zpd 4 5 = 2)) (k6 := (by decide : 2 - zpd 4 6 = 2)) (k7 := (by decide : 2 - zpd 4 7 = 2))
  obtain ⟨a0, a1, a2, a3, a4, a5, a6, a7⟩ := q
  omega
theorem zhk25 {b r : Nat → Nat} (hs : zsup b) (h : zhyp b r 2 5) : zHg b r 2 5 := by
  have q := zhyp_e h (k0 := (by decide : 2 - zpd 5 0 = 0)) (k1 := (by decide : 2 - zpd 5 1 = 1)) (k2 := (by decide : 2 - zpd 5 2 = 0)) (k3 := (by decide : 2 - zpd 5 3 = 1)) (k4 := (by decide : 2 - zpd 5 4 = 1)) (k5 := (by decide : 2 - zpd 5 5 = 2)) (k6 := (by decide : 2 - zpd 5 6 = 1)) (k7 := (by decide : 2 - zpd 5 7 = 2))
  obtain ⟨a0, a1, a2, a3, a4, a5, a6, a7⟩ := q
  obtain ⟨s1, s2, s3, s4, s5, s6, s7, s8, s9⟩ := hs
  have z0 : b 0 = 0 := by omega
  have d : (b 1 + 1 ≤ r 0 ∧ b 2 + 0 ≤ r 1 ∧ b 3 + (1 + 0) ≤ r 0 + r 1 ∧ b 4 + 1 ≤ r 2 ∧ b 5 + (1 + 1) ≤ r 0 + r 2 ∧ b 6 + (0 + 1) ≤ r 1 + r 2 ∧ b 7 + (1 + 0 + 1) ≤ r 0 + r 1 + r 2) := by omega
  rcases d with ⟨e1, e2, e3, e4, e5, e6, e7⟩
  · exact zhx 5 (by unfold zopt; decide) (p := 1) (q := 0) (s := 1) (by decide) (by decide) (by decide) z0 e1 e2 e3 e4 e5 e6 e7
theorem zhk26 {b r : Nat → Nat} (hs : zsup b) (h : zhyp b r 2 6) : zHg b r 2 6 := by
  have q := zhyp_e h (k0 := (by decide : 2 - zpd 6 0 = 0)) (k1 := (by decide : 2 - zpd 6 1 = 0)) (k2 := (by decide : 2 - zpd 6 2 = 1)) (k3 := (by decide : 2 - zpd 6 3 = 1)) (k4 := (by decide : 2 - zpd 6 4 = 1)) (k5 := (by decide : 2 - zpd 6 5 = 1)) (k6 := (by decide : 2 - zpd 6 6 = 2)) (k7 := (by decide : 2 - zpd 6 7 = 2))
  obtain ⟨a0, a1, a2, a3, a4, a5, a6, a7⟩ := q
  obtain ⟨s1, s2, s3, s4, s5, s6, s7, s8, s9⟩ := hs
  have z0 : b 0 = 0 := by omega
  have d : (b 1 + 0 ≤ r 0 ∧ b 2 + 1 ≤ r 1 ∧ b 3 + (0 + 1) ≤ r 0 + r 1 ∧ b 4 + 1 ≤ r 2 ∧ b 5 + (0 + 1) ≤ r 0 + r 2 ∧ b 6 + (1 + 1) ≤ r 1 + r 2 ∧ b 7 + (0 + 1 + 1) ≤ r 0 + r 1 + r 2) := by omega
  rcases d with ⟨e1, e2, e3, e4, e5, e6, e7⟩
  · exact zhx 6 (by unfold zopt; decide) (p := 0) (q := 1) (s := 1) (by decide) (by decide) (by decide) z0 e1 e2 e3 e4 e5 e6 e7
theorem zhk27 {b r : Nat → Nat} (hs : zsup b) (h : zhyp b r 2 7) : zHg b r 2 7 := by
  have q := zhyp_e h (k0 := (by decide : 2 - zpd 7 0 = 0)) (k1 := (by decide : 2 - zpd 7 1 = 0)) (k2 := (by decide : 2 - zpd 7 2 = 0)) (k3 := (by decide : 2 - zpd 7 3 = 1)) (k4 := (by decide : 2 - zpd 7 4 = 0)) (k5 := (by decide : 2 - zpd 7 5 = 1)) (k6 := (by decide : 2 - zpd 7 6 = 1)) (k7 := (by decide : 2 - zpd 7 7 = 2))
  obtain ⟨a0, a1, a2, a3, a4, a5, a6, a7⟩ := q
  obtain ⟨s1, s2, s3, s4, s5, s6, s7, s8, s9⟩ := hs
  have z0 : b 0 = 0 := by omega
  have d : (b 1 + 1 ≤ r 0 ∧ b 2 + 1 ≤ r 1 ∧ b 3 + (1 + 1) ≤ r 0 + r 1 ∧ b 4 + 0 ≤ r 2 ∧ b 5 + (1 + 0) ≤ r 0 + r 2 ∧ b 6 + (1 + 0) ≤ r 1 + r 2 ∧ b 7 + (1 + 1 + 0) ≤ r 0 + r 1 + r 2) ∨ (b 1 + 1 ≤ r 0 ∧ b 2 + 0 ≤ r 1 ∧ b 3 + (1 + 0) ≤ r 0 + r 1 ∧ b 4 + 1 ≤ r 2 ∧ b 5 + (1 + 1) ≤ r 0 + r 2 ∧ b 6 + (0 + 1) ≤ r 1 + r 2 ∧ b 7 + (1 + 0 + 1) ≤ r 0 + r 1 + r 2) ∨ (b 1 + 0 ≤ r 0 ∧ b 2 + 1 ≤ r 1 ∧ b 3 + (0 + 1) ≤ r 0 + r 1 ∧ b 4 + 1 ≤ r 2 ∧ b 5 + (0 + 1) ≤ r 0 + r 2 ∧ b 6 + (1 + 1) ≤ r 1 + r 2 ∧ b 7 + (0 + 1 + 1) ≤ r 0 + r 1 + r 2) := by omega
  rcases d with ⟨e1, e2, e3, e4, e5, e6, e7⟩ | ⟨e1, e2, e3, e4, e5, e6, e7⟩ | ⟨e1, e2, e3, e4, e5, e6, e7⟩
  · exact zhx 3 (by unfold zopt; decide) (p := 1) (q := 1) (s := 0) (by decide) (by decide) (by decide) z0 e1 e2 e3 e4 e5 e6 e7
  · exact zhx 5 (by unfold zopt; decide) (p := 1) (q := 0) (s := 1) (by decide) (by decide) (by decide) z0 e1 e2 e3 e4 e5 e6 e7
  · exact zhx 6 (by unfold zopt; decide) (p := 0) (q := 1) (s := 1) (by decide) (by decide) (by decide) z0 e1 e2 e3 e4 e5 e6 e7
theorem zhk {b r : Nat → Nat} {N f : Nat} (hN : N = 1 ∨ N = 2) (hf : f < 8) (hs : zsup b) (h : zhyp b r N f) : zHg b r N f := by
  rcases hN with rfl | rfl
  · match f, hf with
    | 0, _ => exact zhk10 hs h
    | 1, _ => exact zhk11 hs h
    | 2, _ => exact zhk12 hs h
    | 3, _ => exact zhk13 hs h
    | 4, _ => exact zhk14 hs h
    | 5, _ => exact zhk15 hs h
    | 6, _ => exact zhk16 hs h
    | 7, _ => exact zhk17 hs h
  · match f, hf with
    | 0, _ => exact zhk20 hs h
    | 1, _ => exact zhk21 hs h
    | 2, _ => exact zhk22 hs h
    | 3, _ => exact zhk23 hs h
    | 4, _ => exact zhk24 hs h
    | 5, _ => exact zhk25 hs h
    | 6, _ => exact zhk26 hs h
    | 7, _ => exact zhk27 hs h

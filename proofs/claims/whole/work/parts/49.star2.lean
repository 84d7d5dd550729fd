theorem znlt {a b : Int32} : ¬ a < b ↔ b ≤ a := by rw [Int32.lt_iff_toInt_lt, Int32.le_iff_toInt_le]; omega
theorem znle {a b : Int32} : ¬ a ≤ b ↔ b < a := by rw [Int32.lt_iff_toInt_lt, Int32.le_iff_toInt_le]; omega
def zda (f : Nat → Int32) (o : Option Nat) : Int32 := match o with
  | none => 0
  | some b => f b
theorem zlt_lt {f25 f27 f28 f29 : Nat → Int32} {a1 a2 a3 : Int32} : ∀ {i b : Nat}, zlt f25 f27 f28 f29 a1 a2 a3 i = some b → b < i ∧ f27 b ≤ a2 ∧ f25 b = a1
  | i + 1, b, h => by
    rw [zlt] at h
    split at h
    · next hc => cases h; exact ⟨by omega, hc.2.1, hc.1⟩
    · obtain ⟨q1, q2⟩ := zlt_lt h; exact ⟨by omega, q2⟩
theorem e_latest1 {h : zHp} {n k t : Nat} (hl : zIl h n k t) (ht : t ≤ 1500) (a1 a2 a3 : Int32) : ∀ m i f, i + m = n → m < f → s_X5_latestOf_L9 f a1 a2 a3 (zoi (zlt (h.1 25) (h.1 27) (h.1 28) (h.1 29) a1 a2 a3 i)) (zda (h.1 27) (zlt (h.1 25) (h.1 27) (h.1 28) (h.1 29) a1 a2 a3 i)) (nI i) h = some (zoi (zlt (h.1 25) (h.1 27) (h.1 28) (h.1 29) a1 a2 a3 n), h)
  | 0, i, f + 1, hm, hf => by
    obtain rfl : i = n := by omega
    obtain ⟨⟨l1, l2, l3⟩, -⟩ := hl
    simp only [s_X5_latestOf_L9, l1, nI_le (Nat.le_refl i) (show i < 2 ^ 31 by omega), reduceIte]
  | m + 1, i, f + 1, hm, hf => by
    have ih := e_latest1 hl ht a1 a2 a3 m (i + 1) f (by omega) (by omega)
    obtain ⟨⟨l1, l2, l3⟩, u, v1, -⟩ := hl
    have hi : i < n := by omega
    have hi80 : i < 80 := by omega
    have z80 : ∀ (a : Nat), zri h a 80 (nI i) = some (h.1 a i) := fun a => zri_ok hi80 (by decide)
    obtain ⟨-, -, ⟨dd, dd1, dd2⟩, -, -⟩ := v1 i hi
    simp only [s_X5_latestOf_L9, l1, nI_ge hi (show n < 2 ^ 31 by omega), reduceIte, z80, Option.bind_some, s_X5_latestOf_L44, s_X5_latestOf_L45, s_X5_latestOf_L99, nI_1, z10]
    by_cases c1 : h.1 28 i ≤ a3
    · by_cases c2 : a3 < h.1 29 i
      · by_cases c3 : h.1 25 i = a1
        · by_cases c4 : h.1 27 i ≤ a2
          · have keep : ∀ (hn : ¬ ∀ b, zlt (h.1 25) (h.1 27) (h.1 28) (h.1 29) a1 a2 a3 i = some b → h.1 27 b ≤ h.1 27 i), zlt (h.1 25) (h.1 27) (h.1 28) (h.1 29) a1 a2 a3 (i + 1) = zlt (h.1 25) (h.1 27) (h.1 28) (h.1 29) a1 a2 a3 i := fun hn => by rw [zlt, if_neg (fun z => hn z.2.2.2.2)]
            have take : (∀ b, zlt (h.1 25) (h.1 27) (h.1 28) (h.1 29) a1 a2 a3 i = some b → h.1 27 b ≤ h.1 27 i) → zlt (h.1 25) (h.1 27) (h.1 28) (h.1 29) a1 a2 a3 (i + 1) = some i := fun hn => by rw [zlt, if_pos ⟨c3, c4, c1, c2, hn⟩]
            simp only [znlt.mpr c1, znle.mpr c2, c3, znlt.mpr c4, reduceIte]
            by_cases c5 : h.1 27 i < zda (h.1 27) (zlt (h.1 25) (h.1 27) (h.1 28) (h.1 29) a1 a2 a3 i)
            · simp only [c5, reduceIte]
              rw [keep] at ih
              · exact ih
              · intro hn
                cases e : zlt (h.1 25) (h.1 27) (h.1 28) (h.1 29) a1 a2 a3 i with
                | none => rw [e, dd2] at c5; exact nI_pos (by omega) c5
                | some b => rw [e] at c5; exact (znlt.mpr (hn b e)) c5
            · simp only [c5, reduceIte]
              rw [take] at ih
              · exact ih
              · intro b e
                rw [e] at c5
                exact znlt.mp c5
          · have keep : zlt (h.1 25) (h.1 27) (h.1 28) (h.1 29) a1 a2 a3 (i + 1) = zlt (h.1 25) (h.1 27) (h.1 28) (h.1 29) a1 a2 a3 i := by rw [zlt, if_neg (fun z => c4 z.2.1)]
            rw [keep] at ih
            simp only [znlt.mpr c1, znle.mpr c2, c3, znle.mp c4, reduceIte]
            exact ih
        · have keep : zlt (h.1 25) (h.1 27) (h.1 28) (h.1 29) a1 a2 a3 (i + 1) = zlt (h.1 25) (h.1 27) (h.1 28) (h.1 29) a1 a2 a3 i := by rw [zlt, if_neg (fun z => c3 z.1)]
          rw [keep] at ih
          simp only [znlt.mpr c1, znle.mpr c2, c3, reduceIte]
          exact ih
      · have keep : zlt (h.1 25) (h.1 27) (h.1 28) (h.1 29) a1 a2 a3 (i + 1) = zlt (h.1 25) (h.1 27) (h.1 28) (h.1 29) a1 a2 a3 i := by rw [zlt, if_neg (fun z => c2 z.2.2.2.1)]
        rw [keep] at ih
        simp only [znlt.mpr c1, znlt.mp c2, reduceIte]
        exact ih
    · have keep : zlt (h.1 25) (h.1 27) (h.1 28) (h.1 29) a1 a2 a3 (i + 1) = zlt (h.1 25) (h.1 27) (h.1 28) (h.1 29) a1 a2 a3 i := by rw [zlt, if_neg (fun z => c1 z.2.2.1)]
      rw [keep] at ih
      simp only [znle.mp c1, reduceIte]
      exact ih
def zLa (h : zHp) (n : Nat) (a1 a2 a3 : Int32) : Option Nat := zlt (h.1 25) (h.1 27) (h.1 28) (h.1 29) a1 a2 a3 n
theorem zFU_gt {n : Nat} (hn : n < 2 ^ 31) : n < zFU := by have : zFU = 4611686018427387904 := rfl; omega
theorem e_latest {h : zHp} {n k t : Nat} (hl : zIl h n k t) (ht : t ≤ 1500) (a1 a2 a3 : Int32) : s_X5_latestOf a1 a2 a3 h = some (zoi (zLa h n a1 a2 a3), h) := e_latest1 hl ht a1 a2 a3 n 0 zFU (by omega) (zFU_gt (by have := hl.1.2.2; omega))
theorem m_counts {h : zHp} {n k t i : Nat} (hl : zIl h n k t) (hi : i < n) (ht : t ≤ 1500) {a3 : Int32} (ha3 : a3 < 1501) : s_X10_countsBy (nI i) a3 h = some (if h.1 28 i ≤ a3 ∧ a3 < h.1 29 i then 1 else 0, h) := by
  obtain ⟨⟨l1, l2, l3⟩, ⟨u1, u2, u3, u4, u5⟩, v1, -⟩ := hl
  have hi80 : i < 80 := by omega
  have z80 : ∀ (a : Nat), zri h a 80 (nI i) = some (h.1 a i) := fun a => zri_ok hi80 (by decide)
  obtain ⟨-, -, -, -, p5⟩ := v1 i hi
  have e85 : h.1 85 i = h.1 28 i := congrFun u4.symm i
  simp only [s_X10_countsBy, s_X10_countsBy_L33, s_X10_countsBy_L34, s_X10_countsBy_L29, z80, Option.bind_some, e85, zbo0, zbo1]
  by_cases c1 : h.1 28 i ≤ a3
  · simp only [znlt.mpr c1, reduceIte]
    rcases p5 with ⟨b1, b2⟩ | ⟨b, b0, b1, b2⟩
    · simp only [b2, zm1lt, reduceIte, b1, c1, ha3, and_self]
    · simp only [b2, nI_pos (show b < 2 ^ 31 by omega), reduceIte, b1, c1, true_and]
      by_cases c2 : nI b ≤ a3
      · simp only [c2, znlt.mpr c2, reduceIte]
      · simp only [c2, znle.mp c2, reduceIte]
  · simp only [znle.mp c1, reduceIte, c1, false_and]
theorem m_latest1 {h : zHp} {n k t : Nat} (hl : zIl h n k t) (ht : t ≤ 1500) (a1 a2 : Int32) {a3 : Int32} (ha3 : a3 < 1501) : ∀ m i f, i + m = n → m < f → s_X10_lookOn_L6 f a1 a2 a3 (zoi (zlt (h.1 25) (h.1 27) (h.1 28) (h.1 29) a1 a2 a3 i)) (nI i) h = some (zoi (zlt (h.1 25) (h.1 27) (h.1 28) (h.1 29) a1 a2 a3 n), h)
  | 0, i, f + 1, hm, hf => by
    obtain rfl : i = n := by omega
    obtain ⟨⟨l1, l2, l3⟩, -⟩ := hl
    simp only [s_X10_lookOn_L6, l2, nI_le (Nat.le_refl i) (show i < 2 ^ 31 by omega), reduceIte]
  | m + 1, i, f + 1, hm, hf => by
    have ih := m_latest1 hl ht a1 a2 ha3 m (i + 1) f (by omega) (by omega)
    have hi : i < n := by omega
    have hcb := m_counts hl hi ht ha3
    obtain ⟨⟨l1, l2, l3⟩, ⟨u1, u2, u3, u4, u5⟩, v1, -⟩ := hl
    have hi80 : i < 80 := by omega
    have z80 : ∀ (a : Nat), zri h a 80 (nI i) = some (h.1 a i) := fun a => zri_ok hi80 (by decide)
    have e82 : h.1 82 i = h.1 25 i := congrFun u1.symm i
    have e84 : h.1 84 i = h.1 27 i := congrFun u3.symm i
    simp only [s_X10_lookOn_L6, l2, nI_ge hi (show n < 2 ^ 31 by omega), reduceIte, z80, Option.bind_some, s_X10_lookOn_L51, s_X10_lookOn_L52, s_X10_lookOn_L81, s_X10_lookOn_L86, s_X10_lookOn_L88, nI_1, z10, e82, e84, hcb]
    by_cases c3 : h.1 25 i = a1
    · by_cases c4 : h.1 27 i ≤ a2
      · by_cases c1 : h.1 28 i ≤ a3 ∧ a3 < h.1 29 i
        · simp only [c3, znlt.mpr c4, c1, and_self, reduceIte, z10]
          cases e : zlt (h.1 25) (h.1 27) (h.1 28) (h.1 29) a1 a2 a3 i with
          | none =>
            have take : zlt (h.1 25) (h.1 27) (h.1 28) (h.1 29) a1 a2 a3 (i + 1) = some i := by rw [zlt, if_pos ⟨c3, c4, c1.1, c1.2, fun b hb => by rw [e] at hb; cases hb⟩]
            rw [take] at ih
            simp only [zoi, zm1lt, reduceIte]
            exact ih
          | some b =>
            have hb := (zlt_lt e).1
            have zb : zri h 84 80 (nI b) = some (h.1 27 b) := by rw [zri_ok (by omega) (by decide)]; exact congrArg some (congrFun u3.symm b)
            simp only [zoi, nI_pos (show b < 2 ^ 31 by omega), reduceIte, zb, Option.bind_some]
            by_cases c5 : h.1 27 i < h.1 27 b
            · have keep : zlt (h.1 25) (h.1 27) (h.1 28) (h.1 29) a1 a2 a3 (i + 1) = some b := by rw [zlt, if_neg (fun z => (znlt.mpr (z.2.2.2.2 b e)) c5), e]
              rw [keep] at ih
              simp only [c5, reduceIte]
              exact ih
            · have take : zlt (h.1 25) (h.1 27) (h.1 28) (h.1 29) a1 a2 a3 (i + 1) = some i := by rw [zlt, if_pos ⟨c3, c4, c1.1, c1.2, fun b' hb' => by rw [e] at hb'; cases hb'; exact znlt.mp c5⟩]
              rw [take] at ih
              simp only [c5, reduceIte]
              exact ih
        · have keep : zlt (h.1 25) (h.1 27) (h.1 28) (h.1 29) a1 a2 a3 (i + 1) = zlt (h.1 25) (h.1 27) (h.1 28) (h.1 29) a1 a2 a3 i := by rw [zlt, if_neg (fun z => c1 ⟨z.2.2.1, z.2.2.2.1⟩)]
          rw [keep] at ih
          simp only [c3, znlt.mpr c4, c1, reduceIte]
          exact ih
      · have keep : zlt (h.1 25) (h.1 27) (h.1 28) (h.1 29) a1 a2 a3 (i + 1) = zlt (h.1 25) (h.1 27) (h.1 28) (h.1 29) a1 a2 a3 i := by rw [zlt, if_neg (fun z => c4 z.2.1)]
        rw [keep] at ih
        simp only [c3, znle.mp c4, reduceIte]
        exact ih
    · have keep : zlt (h.1 25) (h.1 27) (h.1 28) (h.1 29) a1 a2 a3 (i + 1) = zlt (h.1 25) (h.1 27) (h.1 28) (h.1 29) a1 a2 a3 i := by rw [zlt, if_neg (fun z => c3 z.1)]
      rw [keep] at ih
      simp only [c3, reduceIte]
      exact ih
theorem m_latest {h : zHp} {n k t : Nat} (hl : zIl h n k t) (ht : t ≤ 1500) (a1 a2 : Int32) {a3 : Int32} (ha3 : a3 < 1501) : s_X10_lookOn a1 a2 a3 h = some (zoi (zLa h n a1 a2 a3), h) := m_latest1 hl ht a1 a2 ha3 n 0 zFU (by omega) (zFU_gt (by have := hl.1.2.2; omega))
def ztb (f33 : Nat → Int32) (d : Int32) : Nat → Option Nat
  | 0 => none
  | i + 1 => if f33 i ≤ d ∧ (∀ b, ztb f33 d i = some b → f33 b ≤ f33 i) then some i else ztb f33 d i
theorem ztb_lt {f33 : Nat → Int32} {d : Int32} : ∀ {i b : Nat}, ztb f33 d i = some b → b < i
  | i + 1, b, h => by
    rw [ztb] at h
    split at h
    · cases h; omega
    · have := ztb_lt h; omega
theorem e_force1 {h : zHp} {n : Nat} (hl : zIt h n) (d : Int32) : ∀ m i f, i + m = n → m < f → s_X6_inForceOn_L7 f d (zoi (ztb (h.1 33) d i)) (zda (h.1 33) (ztb (h.1 33) d i)) (nI i) h = some (zoi (ztb (h.1 33) d n), h)
  | 0, i, f + 1, hm, hf => by
    obtain rfl : i = n := by omega
    obtain ⟨⟨l1, l2, l3⟩, -⟩ := hl
    simp only [s_X6_inForceOn_L7, l1, nI_le (Nat.le_refl i) (show i < 2 ^ 31 by omega), reduceIte]
  | m + 1, i, f + 1, hm, hf => by
    have ih := e_force1 hl d m (i + 1) f (by omega) (by omega)
    obtain ⟨⟨l1, l2, l3⟩, u, v1⟩ := hl
    have hi : i < n := by omega
    have hi10 : i < 10 := by omega
    obtain ⟨⟨dd, dd1, dd2⟩, -⟩ := v1 i hi
    simp only [s_X6_inForceOn_L7, l1, nI_ge hi (show n < 2 ^ 31 by omega), reduceIte, zriA hi10 (by decide : 10 < 2 ^ 31), Option.bind_some, s_X6_inForceOn_L49, nI_1]
    by_cases c1 : h.1 33 i ≤ d
    · simp only [znlt.mpr c1, reduceIte]
      by_cases c5 : h.1 33 i < zda (h.1 33) (ztb (h.1 33) d i)
      · have keep : ztb (h.1 33) d (i + 1) = ztb (h.1 33) d i := by
          rw [ztb, if_neg]
          intro hn
          cases e : ztb (h.1 33) d i with
          | none => rw [e, dd2] at c5; exact nI_pos (by omega) c5
          | some b => rw [e] at c5; exact (znlt.mpr (hn.2 b e)) c5
        rw [keep] at ih
        simp only [c5, reduceIte]
        exact ih
      · have take : ztb (h.1 33) d (i + 1) = some i := by
          rw [ztb, if_pos ⟨c1, fun b e => by rw [e] at c5; exact znlt.mp c5⟩]
        rw [take] at ih
        simp only [c5, reduceIte]
        exact ih
    · have keep : ztb (h.1 33) d (i + 1) = ztb (h.1 33) d i := by rw [ztb, if_neg (fun z => c1 z.1)]
      rw [keep] at ih
      simp only [znle.mp c1, reduceIte]
      exact ih
/-- the star by the bounds of a table -/
def zst (f34 : Nat → Int32) (o : Option Nat) (a b : Int64) : Int32 := match o with
  | none => 0
  | some i => if (f34 (4 * i)).toInt64 * b ≤ a then if (f34 (4 * i + 1)).toInt64 * b ≤ a then if (f34 (4 * i + 2)).toInt64 * b ≤ a then if (f34 (4 * i + 3)).toInt64 * b ≤ a then 1 else 2 else 3 else 4 else 5
def zStO (h : zHp) (n : Nat) (d : Int32) (a b : Int64) : Int32 := zst (h.1 34) (ztb (h.1 33) d n) a b
theorem e_starOn {h : zHp} {n : Nat} (hl : zIt h n) (d : Int32) (a b : Int64) : s_X6_starOn d a b h = some (zStO h n d a b, h) := by
  have h1 := e_force1 hl d n 0 zFU (by omega) (zFU_gt (by have := hl.1.2.2; omega))
  have hf : s_X6_inForceOn d h = some (zoi (ztb (h.1 33) d n), h) := h1
  have hn := hl.1.2.2
  unfold s_X6_starOn zStO
  rw [zbs hf]
  cases e : ztb (h.1 33) d n with
  | none => simp only [zoi, zm1ge, reduceIte, zst]
  | some i =>
    have hi := ztb_lt e
    obtain ⟨q1, q2, q3, q4, q5⟩ := zix4 i
    have q0 : nI i * (4 : Int32) + 0 = nI (4 * i) := by rw [q1]; exact Int32.add_zero _
    have z0 : zri h 34 40 (nI (4 * i)) = some (h.1 34 (4 * i)) := zri_ok (by omega) (by decide)
    have z1 : zri h 34 40 (nI (4 * i + 1)) = some (h.1 34 (4 * i + 1)) := zri_ok (by omega) (by decide)
    have z2 : zri h 34 40 (nI (4 * i + 2)) = some (h.1 34 (4 * i + 2)) := zri_ok (by omega) (by decide)
    have z3 : zri h 34 40 (nI (4 * i + 3)) = some (h.1 34 (4 * i + 3)) := zri_ok (by omega) (by decide)
    have e1 : (0 : Int32) + 1 = 1 := by decide
    have e2 : (1 : Int32) + 1 = 2 := by decide
    have e3 : (2 : Int32) + 1 = 3 := by decide
    have e4 : (3 : Int32) + 1 = 4 := by decide
    obtain ⟨f, hfu⟩ : ∃ f, zFU = f + 5 := ⟨4611686018427387899, rfl⟩
    simp only [zoi, zge0 (show i < 2 ^ 31 by omega), reduceIte, zst]
    rw [hfu]
    have q00 : nI (4 * i) + 0 = nI (4 * i) := Int32.add_zero _
    have f0 : (5 : Int32) - 0 = 5 := by decide
    have f1 : (5 : Int32) - 1 = 4 := by decide
    have f2 : (5 : Int32) - 2 = 3 := by decide
    have f3 : (5 : Int32) - 3 = 2 := by decide
    simp only [s_X6_starOn_L17, show ¬ (4 : Int32) ≤ 0 from by decide, q00, z0, Option.bind_some, reduceIte, e1, show ¬ (4 : Int32) ≤ 1 from by decide, q1, q3, z1, e2, show ¬ (4 : Int32) ≤ 2 from by decide, q4, z2, e3, show ¬ (4 : Int32) ≤ 3 from by decide, q5, z3, e4, show (4 : Int32) ≤ 4 from by decide, f0, f1, f2, f3]
    by_cases c0 : (h.1 34 (4 * i)).toInt64 * b ≤ a <;> by_cases c1 : (h.1 34 (4 * i + 1)).toInt64 * b ≤ a <;> by_cases c2 : (h.1 34 (4 * i + 2)).toInt64 * b ≤ a <;> by_cases c3 : (h.1 34 (4 * i + 3)).toInt64 * b ≤ a <;> simp only [c0, c1, c2, c3, reduceIte]
theorem m_force1 {h : zHp} {n : Nat} (hl : zIt h n) (a1 a3 : Int64) (d : Int32) : ∀ m i f, i + m = n → m < f → s_X10_starBy_L6 f a1 a3 d (zoi (ztb (h.1 33) d i)) (nI i) h = if 0 ≤ zoi (ztb (h.1 33) d n) then s_X10_starBy_L77 zFU a1 a3 (zoi (ztb (h.1 33) d n)) 1 3 h else some (0, h)
  | 0, i, f + 1, hm, hf => by
    obtain rfl : i = n := by omega
    obtain ⟨⟨l1, l2, l3⟩, -⟩ := hl
    simp only [s_X10_starBy_L6, l2, nI_le (Nat.le_refl i) (show i < 2 ^ 31 by omega), reduceIte]
  | m + 1, i, f + 1, hm, hf => by
    have ih := m_force1 hl a1 a3 d m (i + 1) f (by omega) (by omega)
    obtain ⟨⟨l1, l2, l3⟩, ⟨u1, u2⟩, v1⟩ := hl
    have hi : i < n := by omega
    have hi10 : i < 10 := by omega
    have e90 : h.1 90 i = h.1 33 i := congrFun u1.symm i
    simp only [s_X10_starBy_L6, l2, nI_ge hi (show n < 2 ^ 31 by omega), reduceIte, zriA hi10 (by decide : 10 < 2 ^ 31), Option.bind_some, s_X10_starBy_L49, s_X10_starBy_L54, s_X10_starBy_L56, nI_1, e90]
    by_cases c1 : h.1 33 i ≤ d
    · simp only [znlt.mpr c1, reduceIte]
      cases e : ztb (h.1 33) d i with
      | none =>
        have take : ztb (h.1 33) d (i + 1) = some i := by rw [ztb, if_pos ⟨c1, fun b hb => by rw [e] at hb; cases hb⟩]
        rw [take] at ih
        simp only [zoi, zm1lt, reduceIte] at ih ⊢
        exact ih
      | some b =>
        have hb := ztb_lt e
        have zb : zri h 90 10 (nI b) = some (h.1 33 b) := by rw [zri_ok (by omega) (by decide)]; exact congrArg some (congrFun u1.symm b)
        simp only [zoi, nI_pos (show b < 2 ^ 31 by omega), reduceIte, zb, Option.bind_some]
        by_cases c5 : h.1 33 i < h.1 33 b
        · have keep : ztb (h.1 33) d (i + 1) = some b := by rw [ztb, if_neg (fun z => (znlt.mpr (z.2 b e)) c5), e]
          rw [keep] at ih
          simp only [c5, reduceIte]
          exact ih
        · have take : ztb (h.1 33) d (i + 1) = some i := by rw [ztb, if_pos ⟨c1, fun b' hb' => by rw [e] at hb'; cases hb'; exact znlt.mp c5⟩]
          rw [take] at ih
          simp only [c5, reduceIte]
          exact ih
    · have keep : ztb (h.1 33) d (i + 1) = ztb (h.1 33) d i := by rw [ztb, if_neg (fun z => c1 z.1)]
      rw [keep] at ih
      simp only [znle.mp c1, reduceIte]
      exact ih
theorem m_starBy {h : zHp} {n : Nat} (hl : zIt h n) (d : Int32) (a b : Int64) : s_X10_starBy a b d h = some (zStO h n d a b, h) := by
  have h1 := m_force1 hl a b d n 0 zFU (by omega) (zFU_gt (by have := hl.1.2.2; omega))
  have hf : s_X10_starBy a b d h = if 0 ≤ zoi (ztb (h.1 33) d n) then s_X10_starBy_L77 zFU a b (zoi (ztb (h.1 33) d n)) 1 3 h else some (0, h) := h1
  have hn := hl.1.2.2
  rw [hf]
  unfold zStO
  cases e : ztb (h.1 33) d n with
  | none => simp only [zoi, zm1ge, reduceIte, zst]
  | some i =>
    have hi := ztb_lt e
    obtain ⟨q1, q2, q3, q4, q5⟩ := zix4 i
    have q00 : nI (4 * i) + 0 = nI (4 * i) := Int32.add_zero _
    have u91 : ∀ j, h.1 91 j = h.1 34 j := fun j => congrFun hl.2.1.2.symm j
    have z0 : zri h 91 40 (nI (4 * i)) = some (h.1 34 (4 * i)) := by rw [zri_ok (by omega) (by decide), u91]
    have z1 : zri h 91 40 (nI (4 * i + 1)) = some (h.1 34 (4 * i + 1)) := by rw [zri_ok (by omega) (by decide), u91]
    have z2 : zri h 91 40 (nI (4 * i + 2)) = some (h.1 34 (4 * i + 2)) := by rw [zri_ok (by omega) (by decide), u91]
    have z3 : zri h 91 40 (nI (4 * i + 3)) = some (h.1 34 (4 * i + 3)) := by rw [zri_ok (by omega) (by decide), u91]
    have e1 : (3 : Int32) + -1 = 2 := by decide
    have e2 : (2 : Int32) + -1 = 1 := by decide
    have e3 : (1 : Int32) + -1 = 0 := by decide
    have e4 : (0 : Int32) + -1 = -1 := by decide
    have f0 : (5 : Int32) - 0 = 5 := by decide
    have f1 : (5 : Int32) - 1 = 4 := by decide
    have f2 : (5 : Int32) - 2 = 3 := by decide
    have f3 : (5 : Int32) - 3 = 2 := by decide
    obtain ⟨f, hfu⟩ : ∃ f, zFU = f + 5 := ⟨4611686018427387899, rfl⟩
    have mc : ∀ x : Int32, b * x.toInt64 = x.toInt64 * b := fun x => Int64.mul_comm _ _
    simp only [zoi, zge0 (show i < 2 ^ 31 by omega), reduceIte, zst]
    rw [hfu]
    simp only [s_X10_starBy_L77, s_X10_starBy_L111, show ¬ (3 : Int32) < 0 from by decide, q2, q5, z3, Option.bind_some, reduceIte, e1, show ¬ (2 : Int32) < 0 from by decide, q4, z2, e2, show ¬ (1 : Int32) < 0 from by decide, q3, z1, e3, show ¬ (0 : Int32) < 0 from by decide, q00, z0, e4, zm1lt, f0, f1, f2, f3, mc]
    by_cases c0 : (h.1 34 (4 * i)).toInt64 * b ≤ a <;> by_cases c1 : (h.1 34 (4 * i + 1)).toInt64 * b ≤ a <;> by_cases c2 : (h.1 34 (4 * i + 2)).toInt64 * b ≤ a <;> by_cases c3 : (h.1 34 (4 * i + 3)).toInt64 * b ≤ a <;> simp only [c0, c1, c2, c3, reduceIte]
/-- the star of a kitchen -/
def zStar (h : zHp) (nc nl nt : Nat) (a1 a2 a3 : Int32) : Int32 := match zLa h nl a1 a2 a3 with
  | none => 0
  | some l => zStO h nt (h.1 27 l) (nI (zScore h nc l (h.1 27 l))).toInt64 1
theorem e_starOf {h : zHp} {t nc nk nl nt np : Nat} (hN : zIN h t nc nk nl nt np) (a1 a2 a3 : Int32) : ∃ h1, s_X9_starOf a1 a2 a3 h = some (zStar h nc nl nt a1 a2 a3, h1) ∧ zSame h h1 := by
  obtain ⟨⟨d1, d2, d3⟩, hc, -, -, -, hl, ht, -, -⟩ := hN
  have w1 := e_latest hl d3 a1 a2 a3
  unfold s_X9_starOf zStar
  rw [zbs w1]
  cases e : zLa h nl a1 a2 a3 with
  | none => exact ⟨h, by simp only [zoi, zm1ge, reduceIte], zSame.rf h⟩
  | some l =>
    have hln := (zlt_lt e).1
    have hl3 := hl.1.2.2
    have hl80 : l < 80 := by omega
    obtain ⟨F, q1⟩ := e_score (d := h.1 27 l) hc hl.2.2.2.2.1 hl80
    have w2 : s_X5_dayOf (nI l) h = some (h.1 27 l, h) := by simp only [s_X5_dayOf, zriA hl80 (by decide : 80 < 2 ^ 31), Option.bind_some]
    have w3 := e_starOn (h := zgk h 31 F) ht (h.1 27 l) (nI (zScore h nc l (h.1 27 l))).toInt64 1
    refine ⟨zgk h 31 F, ?_, zgk_same h F (by decide) (by decide)⟩
    simp only [zoi, zge0 (show l < 2 ^ 31 by omega), reduceIte, w2, Option.bind_some, q1, w3]
    rfl
theorem m_starOf {h : zHp} {t nc nk nl nt np : Nat} (hN : zIN h t nc nk nl nt np) (a1 a2 : Int32) {a3 : Int32} (ha3 : a3 < 1501) : ∃ h1, s_X10_starOf a1 a2 a3 h = some (zStar h nc nl nt a1 a2 a3, h1) ∧ zSame h h1 := by
  obtain ⟨⟨d1, d2, d3⟩, hc, -, -, -, hl, ht, -, -⟩ := hN
  have w1 := m_latest hl d3 a1 a2 ha3
  unfold s_X10_starOf zStar
  rw [zbs w1]
  cases e : zLa h nl a1 a2 a3 with
  | none => exact ⟨h, by simp only [zoi, zm1ge, reduceIte, s_X10_starOf_L44], zSame.rf h⟩
  | some l =>
    have hln := (zlt_lt e).1
    have hl3 := hl.1.2.2
    have hl80 : l < 80 := by omega
    obtain ⟨F, q1⟩ := m_score (d := h.1 27 l) hc hl.2.1.2.2.2.2 hl.2.2.2.2.1 hl80
    have e84 : h.1 84 l = h.1 27 l := congrFun hl.2.1.2.2.1.symm l
    have w3 := m_starBy (h := zgk h 89 F) ht (h.1 27 l) (nI (zScore h nc l (h.1 27 l))).toInt64 1
    refine ⟨zgk h 89 F, ?_, zgk_same h F (by decide) (by decide)⟩
    simp only [zoi, zge0 (show l < 2 ^ 31 by omega), reduceIte, zriA hl80 (by decide : 80 < 2 ^ 31), Option.bind_some, e84, q1, show (zgk h 89 F).1 84 l = h.1 27 l from e84, w3, s_X10_starOf_L44]
    rfl
theorem zLa_same {h h' : zHp} (hs : zSame h h') (n : Nat) (a1 a2 a3 : Int32) : zLa h' n a1 a2 a3 = zLa h n a1 a2 a3 := by
  unfold zLa
  rw [hs.1 25 (by decide), hs.1 27 (by decide), hs.1 28 (by decide), hs.1 29 (by decide)]
theorem zStO_same {h h' : zHp} (hs : zSame h h') (n : Nat) (d : Int32) (a b : Int64) : zStO h' n d a b = zStO h n d a b := by
  unfold zStO
  rw [hs.1 33 (by decide), hs.1 34 (by decide)]
theorem zStar_same {h h' : zHp} (hs : zSame h h') (nc nl nt : Nat) (a1 a2 a3 : Int32) : zStar h' nc nl nt a1 a2 a3 = zStar h nc nl nt a1 a2 a3 := by
  unfold zStar
  rw [zLa_same hs]
  cases zLa h nl a1 a2 a3 with
  | none => rfl
  | some l => simp only [zScore_same hs, zStO_same hs, hs.1 27 (show zscr 27 = false by decide)]

/-! ===== determinants of at most four rows ===== -/
def g2D (e : Nat → Nat → Int) (a b p q : Nat) : Int := e a p * e b q - e a q * e b p
def g3D (e : Nat → Nat → Int) (a b c p q r : Nat) : Int := e a p * g2D e b c q r - e a q * g2D e b c p r + e a r * g2D e b c p q
def g4D (e : Nat → Nat → Int) (a b c d p q r s : Nat) : Int := e a p * g3D e b c d q r s - e a q * g3D e b c d p r s + e a r * g3D e b c d p q s - e a s * g3D e b c d p q r
def zD4 (e : Nat → Nat → Int) : Int := g4D e 1 2 3 4 1 2 3 4
def zBk (e : Nat → Nat → Int) : Bool → Bool → Bool → Bool → Int
  | false, false, false, false => 1
  | true, false, false, false => e 1 1
  | false, true, false, false => e 2 2
  | false, false, true, false => e 3 3
  | false, false, false, true => e 4 4
  | true, true, false, false => g2D e 1 2 1 2
  | true, false, true, false => g2D e 1 3 1 3
  | true, false, false, true => g2D e 1 4 1 4
  | false, true, true, false => g2D e 2 3 2 3
  | false, true, false, true => g2D e 2 4 2 4
  | false, false, true, true => g2D e 3 4 3 4
  | true, true, true, false => g3D e 1 2 3 1 2 3
  | true, true, false, true => g3D e 1 2 4 1 2 4
  | true, false, true, true => g3D e 1 3 4 1 3 4
  | false, true, true, true => g3D e 2 3 4 2 3 4
  | true, true, true, true => g4D e 1 2 3 4 1 2 3 4
def zq4 (q1 q2 q3 q4 : Bool) (r : Nat) : Bool := match r with
  | 1 => q1
  | 2 => q2
  | 3 => q3
  | 4 => q4
  | _ => false
theorem zblock (e : Nat → Nat → Int) (q1 q2 q3 q4 : Bool) (h : ∀ r c, 1 ≤ r → r ≤ 4 → 1 ≤ c → c ≤ 4 → zq4 q1 q2 q3 q4 r = true → zq4 q1 q2 q3 q4 c = false → e r c = 0) : zD4 e = zBk e q1 q2 q3 q4 * zBk e (!q1) (!q2) (!q3) (!q4) := by
  have h12 := h 1 2 (by decide) (by decide) (by decide) (by decide)
  have h13 := h 1 3 (by decide) (by decide) (by decide) (by decide)
  have h14 := h 1 4 (by decide) (by decide) (by decide) (by decide)
  have h21 := h 2 1 (by decide) (by decide) (by decide) (by decide)
  have h23 := h 2 3 (by decide) (by decide) (by decide) (by decide)
  have h24 := h 2 4 (by decide) (by decide) (by decide) (by decide)
  have h31 := h 3 1 (by decide) (by decide) (by decide) (by decide)
  have h32 := h 3 2 (by decide) (by decide) (by decide) (by decide)
  have h34 := h 3 4 (by decide) (by decide) (by decide) (by decide)
  have h41 := h 4 1 (by decide) (by decide) (by decide) (by decide)
  have h42 := h 4 2 (by decide) (by decide) (by decide) (by decide)
  have h43 := h 4 3 (by decide) (by decide) (by decide) (by decide)
  clear h
  cases q1 <;> cases q2 <;> cases q3 <;> cases q4 <;>
    simp only [zq4, forall_const, Bool.true_eq_false, Bool.false_eq_true, false_implies, implies_true] at h12 h13 h14 h21 h23 h24 h31 h32 h34 h41 h42 h43 <;>
    simp only [zD4, zBk, g4D, g3D, g2D, Bool.not_true, Bool.not_false] <;> grind
def zcl (l : Nat) (e : Nat → Nat → Int) : Nat → Nat → Int := fun r c => if c = l ∧ r ≠ l then 0 else e r c
theorem zclean {l : Nat} {e : Nat → Nat → Int} (hl : l ≤ 4) (h : ∀ c, 1 ≤ l → 1 ≤ c → c ≤ 4 → c ≠ l → e l c = 0) : zD4 (zcl l e) = zD4 e := by
  have h1 := h 1
  have h2 := h 2
  have h3 := h 3
  have h4 := h 4
  clear h
  match l, hl with
  | 0, _ => simp [zD4, g4D, g3D, g2D, zcl]
  | 1, _ =>
    simp at h2 h3 h4
    simp [zD4, g4D, g3D, g2D, zcl, h2, h3, h4]
  | 2, _ =>
    simp at h1 h3 h4
    simp [zD4, g4D, g3D, g2D, zcl, h1, h3, h4]
  | 3, _ =>
    simp at h1 h2 h4
    simp [zD4, g4D, g3D, g2D, zcl, h1, h2, h4]
  | 4, _ =>
    simp at h1 h2 h3
    simp [zD4, g4D, g3D, g2D, zcl, h1, h2, h3]
/-! a determinant of weights with a way to the ground is above 0 -/
def zws (w : Nat → Nat → Int) (i : Nat) : Nat → Int
  | 0 => 0
  | n + 1 => zws w i n + if n + 1 = i then 0 else w i (n + 1)
def zmt (n : Nat) (w : Nat → Nat → Int) (g : Nat → Int) (i j : Nat) : Int := if i = j then g i + zws w i n else -(w i j)
def zPr (n : Nat) (w : Nat → Nat → Int) (g : Nat → Int) : Prop := (∀ i j, 1 ≤ i → i ≤ n → 1 ≤ j → j ≤ n → 0 ≤ w i j) ∧ (∀ i, 1 ≤ i → i ≤ n → 0 ≤ g i) ∧ ∀ (U : Nat → Bool) u, 1 ≤ u → u ≤ n → U u = true → ∃ x, 1 ≤ x ∧ x ≤ n ∧ U x = true ∧ (0 < g x ∨ ∃ y, 1 ≤ y ∧ y ≤ n ∧ U y = false ∧ 0 < w x y)
theorem zws_nn {w : Nat → Nat → Int} {i n : Nat} (h : ∀ j, 1 ≤ j → j ≤ n → 0 ≤ w i j) : ∀ m, m ≤ n → 0 ≤ zws w i m
  | 0, _ => Int.le_refl _
  | m + 1, hm => by
    have := zws_nn h m (by omega)
    have := h (m + 1) (by omega) hm
    rw [zws]
    split <;> omega
theorem zws_ge {w : Nat → Nat → Int} {i n k : Nat} (h : ∀ j, 1 ≤ j → j ≤ n → 0 ≤ w i j) (hk : 1 ≤ k) (hki : k ≠ i) : ∀ m, m ≤ n → k ≤ m → w i k ≤ zws w i m
  | 0, _, h0 => by omega
  | m + 1, hm, hkm => by
    rw [zws]
    by_cases e : k = m + 1
    · subst e
      have := zws_nn h m (by omega)
      rw [if_neg hki]
      omega
    · have := zws_ge h hk hki m (by omega) (by omega)
      have := h (m + 1) (by omega) hm
      split <;> omega
theorem zdeg_pos {n : Nat} {w : Nat → Nat → Int} {g : Nat → Int} (hp : zPr n w g) {i : Nat} (h1 : 1 ≤ i) (h2 : i ≤ n) : 0 < g i + zws w i n := by
  obtain ⟨x, x1, x2, x3, x4⟩ := hp.2.2 (fun k => decide (k = i)) i h1 h2 (decide_eq_true rfl)
  have e : x = i := of_decide_eq_true x3
  subst e
  have a := hp.2.1 x x1 x2
  have b := zws_nn (w := w) (i := x) (n := n) (fun j j1 j2 => hp.1 x j x1 x2 j1 j2) n (Nat.le_refl n)
  rcases x4 with x4 | ⟨y, y1, y2, y3, y4⟩
  · omega
  · have := zws_ge (w := w) (i := x) (n := n) (k := y) (fun j j1 j2 => hp.1 x j x1 x2 j1 j2) y1 (fun z => by rw [z] at y3; simp at y3) n (Nat.le_refl n) y2
    omega
def zew (n : Nat) (s : Int) (w : Nat → Nat → Int) (i j : Nat) : Int := s * w i j + w i n * w n j
def zeg (n : Nat) (s : Int) (w : Nat → Nat → Int) (g : Nat → Int) (i : Nat) : Int := s * g i + w i n * g n
theorem zPr_step {n : Nat} {w : Nat → Nat → Int} {g : Nat → Int} (hp : zPr (n + 1) w g) {s : Int} (hs : 0 < s) : zPr n (zew (n + 1) s w) (zeg (n + 1) s w g) := by
  refine ⟨fun i j i1 i2 j1 j2 => ?_, fun i i1 i2 => ?_, fun U u u1 u2 hU => ?_⟩
  · have a := Int.mul_nonneg (show 0 ≤ s by omega) (hp.1 i j i1 (by omega) j1 (by omega))
    have b := Int.mul_nonneg (hp.1 i (n + 1) i1 (by omega) (by omega) (by omega)) (hp.1 (n + 1) j (by omega) (by omega) j1 (by omega))
    unfold zew
    omega
  · have a := Int.mul_nonneg (show 0 ≤ s by omega) (hp.2.1 i i1 (by omega))
    have b := Int.mul_nonneg (hp.1 i (n + 1) i1 (by omega) (by omega) (by omega)) (hp.2.1 (n + 1) (by omega) (by omega))
    unfold zeg
    omega
  · -- from U alone a way out that isn't by n + 1, or by it
    have nnw : ∀ i j, 1 ≤ i → i ≤ n → 1 ≤ j → j ≤ n → 0 ≤ s * w i j ∧ 0 ≤ w i (n + 1) * w (n + 1) j := fun i j i1 i2 j1 j2 =>
      ⟨Int.mul_nonneg (by omega) (hp.1 i j i1 (by omega) j1 (by omega)), Int.mul_nonneg (hp.1 i (n + 1) i1 (by omega) (by omega) (by omega)) (hp.1 (n + 1) j (by omega) (by omega) j1 (by omega))⟩
    have nng : ∀ i, 1 ≤ i → i ≤ n → 0 ≤ s * g i ∧ 0 ≤ w i (n + 1) * g (n + 1) := fun i i1 i2 =>
      ⟨Int.mul_nonneg (by omega) (hp.2.1 i i1 (by omega)), Int.mul_nonneg (hp.1 i (n + 1) i1 (by omega) (by omega) (by omega)) (hp.2.1 (n + 1) (by omega) (by omega))⟩
    have direct : ∀ x, 1 ≤ x → x ≤ n → U x = true → 0 < g x → ∃ x, 1 ≤ x ∧ x ≤ n ∧ U x = true ∧ (0 < zeg (n + 1) s w g x ∨ ∃ y, 1 ≤ y ∧ y ≤ n ∧ U y = false ∧ 0 < zew (n + 1) s w x y) := fun x x1 x2 x3 x4 => by
      refine ⟨x, x1, x2, x3, Or.inl ?_⟩
      have := Int.mul_pos hs x4
      have := (nng x x1 x2).2
      unfold zeg
      omega
    have direct2 : ∀ x y, 1 ≤ x → x ≤ n → U x = true → 1 ≤ y → y ≤ n → U y = false → 0 < w x y → ∃ x, 1 ≤ x ∧ x ≤ n ∧ U x = true ∧ (0 < zeg (n + 1) s w g x ∨ ∃ y, 1 ≤ y ∧ y ≤ n ∧ U y = false ∧ 0 < zew (n + 1) s w x y) := fun x y x1 x2 x3 y1 y2 y3 y4 => by
      refine ⟨x, x1, x2, x3, Or.inr ⟨y, y1, y2, y3, ?_⟩⟩
      have := Int.mul_pos hs y4
      have := (nnw x y x1 x2 y1 y2).2
      unfold zew
      omega
    obtain ⟨x, x1, x2, x3, x4⟩ := hp.2.2 (fun k => U k && decide (k ≤ n)) u u1 (by omega) (by rw [hU, decide_eq_true u2]; rfl)
    rw [Bool.and_eq_true, decide_eq_true_iff] at x3
    rcases x4 with x4 | ⟨y, y1, y2, y3, y4⟩
    · exact direct x x1 x3.2 x3.1 x4
    · by_cases e : y ≤ n
      · rw [decide_eq_true e, Bool.and_true] at y3
        exact direct2 x y x1 x3.2 x3.1 y1 e y3 y4
      · obtain rfl : y = n + 1 := by omega
        obtain ⟨x', z1, z2, z3, z4⟩ := hp.2.2 (fun k => (U k && decide (k ≤ n)) || decide (k = n + 1)) u u1 (by omega) (by rw [hU, decide_eq_true u2]; rfl)
        rcases z4 with z4 | ⟨y', v1, v2, v3, v4⟩
        · by_cases e2 : x' = n + 1
          · subst e2
            refine ⟨x, x1, x3.2, x3.1, Or.inl ?_⟩
            have := Int.mul_pos y4 z4
            have := (nng x x1 x3.2).1
            unfold zeg
            omega
          · have z3' : U x' = true := by
              rw [decide_eq_false e2, Bool.or_false, Bool.and_eq_true] at z3
              exact z3.1
            exact direct x' z1 (by omega) z3' z4
        · have hy' : y' ≤ n := by
            apply Classical.byContradiction
            intro z
            rw [decide_eq_true (show y' = n + 1 by omega), Bool.or_true] at v3
            cases v3
          have hUy : U y' = false := by
            rw [decide_eq_true hy', Bool.and_true, Bool.or_eq_false_iff] at v3
            exact v3.1
          by_cases e2 : x' = n + 1
          · subst e2
            refine ⟨x, x1, x3.2, x3.1, Or.inr ⟨y', v1, hy', hUy, ?_⟩⟩
            have := Int.mul_pos y4 v4
            have := (nnw x y' x1 x3.2 v1 hy').1
            unfold zew
            omega
          · have z3' : U x' = true := by
              rw [decide_eq_false e2, Bool.or_false, Bool.and_eq_true] at z3
              exact z3.1
            exact direct2 x' y' z1 (by omega) z3' v1 hy' hUy v4
theorem zposm {a b : Int} (ha : 0 < a) (h : 0 < a * b) : 0 < b := by
  by_cases c : 0 < b
  · exact c
  · have := Int.mul_nonpos_of_nonneg_of_nonpos (a := a) (b := b) (by omega) (by omega)
    omega
theorem zpos1 {w : Nat → Nat → Int} {g : Nat → Int} (hp : zPr 1 w g) : 0 < zmt 1 w g 1 1 := by
  have := zdeg_pos hp (i := 1) (by decide) (by decide)
  unfold zmt
  rw [if_pos rfl]
  exact this
theorem zpos2 {w : Nat → Nat → Int} {g : Nat → Int} (hp : zPr 2 w g) : 0 < g2D (zmt 2 w g) 1 2 1 2 := by
  have hs := zdeg_pos hp (i := 2) (by decide) (by decide)
  have h1 := zpos1 (zPr_step hp hs)
  have e : g2D (zmt 2 w g) 1 2 1 2 = zmt 1 (zew 2 (g 2 + zws w 2 2) w) (zeg 2 (g 2 + zws w 2 2) w g) 1 1 := by
    simp [g2D, zmt, zws, zew, zeg]
    grind
  rw [e]
  exact h1
theorem zpos3 {w : Nat → Nat → Int} {g : Nat → Int} (hp : zPr 3 w g) : 0 < g3D (zmt 3 w g) 1 2 3 1 2 3 := by
  have hs := zdeg_pos hp (i := 3) (by decide) (by decide)
  have h1 := zpos2 (zPr_step hp hs)
  have e : (g 3 + zws w 3 3) * g3D (zmt 3 w g) 1 2 3 1 2 3 = g2D (zmt 2 (zew 3 (g 3 + zws w 3 3) w) (zeg 3 (g 3 + zws w 3 3) w g)) 1 2 1 2 := by
    simp [g3D, g2D, zmt, zws, zew, zeg]
    grind
  rw [← e] at h1
  exact zposm hs h1
theorem zpos4 {w : Nat → Nat → Int} {g : Nat → Int} (hp : zPr 4 w g) : 0 < zD4 (zmt 4 w g) := by
  have hs := zdeg_pos hp (i := 4) (by decide) (by decide)
  have h1 := zpos3 (zPr_step hp hs)
  have k11 : zmt 3 (zew 4 (g 4 + zws w 4 4) w) (zeg 4 (g 4 + zws w 4 4) w g) 1 1 = zmt 4 w g 4 4 * zmt 4 w g 1 1 - zmt 4 w g 1 4 * zmt 4 w g 4 1 := by
    simp [zmt, zws, zew, zeg]
    grind
  have k12 : zmt 3 (zew 4 (g 4 + zws w 4 4) w) (zeg 4 (g 4 + zws w 4 4) w g) 1 2 = zmt 4 w g 4 4 * zmt 4 w g 1 2 - zmt 4 w g 1 4 * zmt 4 w g 4 2 := by
    simp [zmt, zws, zew, zeg]
    grind
  have k13 : zmt 3 (zew 4 (g 4 + zws w 4 4) w) (zeg 4 (g 4 + zws w 4 4) w g) 1 3 = zmt 4 w g 4 4 * zmt 4 w g 1 3 - zmt 4 w g 1 4 * zmt 4 w g 4 3 := by
    simp [zmt, zws, zew, zeg]
    grind
  have k21 : zmt 3 (zew 4 (g 4 + zws w 4 4) w) (zeg 4 (g 4 + zws w 4 4) w g) 2 1 = zmt 4 w g 4 4 * zmt 4 w g 2 1 - zmt 4 w g 2 4 * zmt 4 w g 4 1 := by
    simp [zmt, zws, zew, zeg]
    grind
  have k22 : zmt 3 (zew 4 (g 4 + zws w 4 4) w) (zeg 4 (g 4 + zws w 4 4) w g) 2 2 = zmt 4 w g 4 4 * zmt 4 w g 2 2 - zmt 4 w g 2 4 * zmt 4 w g 4 2 := by
    simp [zmt, zws, zew, zeg]
    grind
  have k23 : zmt 3 (zew 4 (g 4 + zws w 4 4) w) (zeg 4 (g 4 + zws w 4 4) w g) 2 3 = zmt 4 w g 4 4 * zmt 4 w g 2 3 - zmt 4 w g 2 4 * zmt 4 w g 4 3 := by
    simp [zmt, zws, zew, zeg]
    grind
  have k31 : zmt 3 (zew 4 (g 4 + zws w 4 4) w) (zeg 4 (g 4 + zws w 4 4) w g) 3 1 = zmt 4 w g 4 4 * zmt 4 w g 3 1 - zmt 4 w g 3 4 * zmt 4 w g 4 1 := by
    simp [zmt, zws, zew, zeg]
    grind
  have k32 : zmt 3 (zew 4 (g 4 + zws w 4 4) w) (zeg 4 (g 4 + zws w 4 4) w g) 3 2 = zmt 4 w g 4 4 * zmt 4 w g 3 2 - zmt 4 w g 3 4 * zmt 4 w g 4 2 := by
    simp [zmt, zws, zew, zeg]
    grind
  have k33 : zmt 3 (zew 4 (g 4 + zws w 4 4) w) (zeg 4 (g 4 + zws w 4 4) w g) 3 3 = zmt 4 w g 4 4 * zmt 4 w g 3 3 - zmt 4 w g 3 4 * zmt 4 w g 4 3 := by
    simp [zmt, zws, zew, zeg]
    grind
  have k44 : zmt 4 w g 4 4 = g 4 + zws w 4 4 := if_pos rfl
  have e : zmt 4 w g 4 4 * (zmt 4 w g 4 4 * zD4 (zmt 4 w g)) = g3D (zmt 3 (zew 4 (g 4 + zws w 4 4) w) (zeg 4 (g 4 + zws w 4 4) w g)) 1 2 3 1 2 3 := by
    simp only [zD4, g4D, g3D, g2D, k11, k12, k13, k21, k22, k23, k31, k32, k33]
    generalize zmt 4 w g = e
    grind
  rw [← e, k44] at h1
  exact zposm hs (zposm hs h1)

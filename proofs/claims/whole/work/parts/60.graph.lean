/-! ===== joined sets: labels, and spreading ===== -/
def zlb (A : Nat → Nat → Bool) (k : Nat) (s : Nat → Nat) : Nat → Nat := if A (k / 5) (k % 5) = true ∧ s (k / 5) < s (k % 5) then znp s (k % 5) (s (k / 5)) else s
def zlr (A : Nat → Nat → Bool) : Nat → (Nat → Nat) → Nat → Nat
  | 0, s => s
  | n + 1, s => zlb A n (zlr A n s)
def zls (A : Nat → Nat → Bool) : Nat → Nat → Nat
  | 0 => id
  | t + 1 => zlr A 25 (zls A t)
theorem zlb_le (A : Nat → Nat → Bool) (k : Nat) (s : Nat → Nat) (j : Nat) : zlb A k s j ≤ s j := by
  unfold zlb
  split
  · next c =>
    unfold znp
    split
    · next e => rw [e]; omega
    · omega
  · omega
theorem zlr_le (A : Nat → Nat → Bool) (s : Nat → Nat) (j : Nat) : ∀ m n, zlr A (n + m) s j ≤ zlr A n s j
  | 0, n => Nat.le_refl _
  | m + 1, n => Nat.le_trans (zlb_le A (n + m) (zlr A (n + m) s) j) (zlr_le A s j m n)
theorem zlr_edge {A : Nat → Nat → Bool} {s : Nat → Nat} {i j : Nat} (hi : i < 5) (hj : j < 5) (e : A i j = true) : zlr A 25 s j ≤ s i := by
  have h1 := zlr_le A s j (25 - (5 * i + j + 1)) (5 * i + j + 1)
  rw [show 5 * i + j + 1 + (25 - (5 * i + j + 1)) = 25 from by omega] at h1
  have h2 := zlr_le A s i (5 * i + j) 0
  rw [Nat.zero_add] at h2
  refine Nat.le_trans h1 (Nat.le_trans ?_ h2)
  rw [zlr]
  unfold zlb
  rw [show (5 * i + j) / 5 = i from by omega, show (5 * i + j) % 5 = j from by omega]
  split
  · rw [znp, if_pos rfl]; exact Nat.le_refl _
  · next c =>
    by_cases d : zlr A (5 * i + j) s i < zlr A (5 * i + j) s j
    · exact absurd ⟨e, d⟩ c
    · omega
/-- what is so of a label is so of the labels of those that are joined to it -/
theorem zlr_inv {A : Nat → Nat → Bool} (P : Nat → Nat → Prop) (hP : ∀ i j v, i < 5 → j < 5 → A i j = true → P i v → P j v) {s : Nat → Nat} (h0 : ∀ j, j < 5 → P j (s j)) : ∀ n, n ≤ 25 → ∀ j, j < 5 → P j (zlr A n s j)
  | 0, _, j, hj => h0 j hj
  | n + 1, hn, j, hj => by
    have ih := zlr_inv P hP h0 n (by omega)
    rw [zlr]
    unfold zlb
    split
    · next c =>
      unfold znp
      split
      · next e => exact hP (n / 5) j _ (by omega) hj (by rw [e]; exact c.1) (ih (n / 5) (by omega))
      · exact ih j hj
    · exact ih j hj
theorem zls_inv {A : Nat → Nat → Bool} (P : Nat → Nat → Prop) (hP : ∀ i j v, i < 5 → j < 5 → A i j = true → P i v → P j v) (h0 : ∀ j, j < 5 → P j j) : ∀ t j, j < 5 → P j (zls A t j)
  | 0, j, hj => h0 j hj
  | t + 1, j, hj => zlr_inv P hP (fun j hj => zls_inv P hP h0 t j hj) 25 (Nat.le_refl _) j hj
theorem zls_le (A : Nat → Nat → Bool) (j : Nat) : ∀ t, zls A t j ≤ j
  | 0 => Nat.le_refl _
  | t + 1 => by
    have h1 := zlr_le A (zls A t) j 25 0
    rw [Nat.zero_add] at h1
    exact Nat.le_trans h1 (zls_le A j t)
theorem zcn_mono {p q : Nat → Bool} : ∀ n, (∀ i, i < n → p i = true → q i = true) → zcn p n ≤ zcn q n
  | 0, _ => Nat.le_refl _
  | n + 1, h => by
    have ih := zcn_mono n (fun i hi => h i (by omega))
    have h1 := h n (by omega)
    rw [zcn, zcn]
    cases e : p n
    · simp only [Bool.false_eq_true, reduceIte]; omega
    · rw [h1 e]; simp only [reduceIte]; omega
theorem zcn_more {p q : Nat → Bool} {y : Nat} (e1 : p y = false) (e2 : q y = true) : ∀ n, y < n → (∀ i, i < n → p i = true → q i = true) → zcn p n < zcn q n
  | 0, hy, _ => by omega
  | n + 1, hy, h => by
    rw [zcn, zcn]
    by_cases e : y = n
    · subst e
      have := zcn_mono y (fun i hi => h i (by omega))
      rw [e1, e2]
      simp only [Bool.false_eq_true, reduceIte]
      omega
    · have ih := zcn_more e1 e2 n (by omega) (fun i hi => h i (by omega))
      have h1 := h n (by omega)
      cases e : p n
      · simp only [Bool.false_eq_true, reduceIte]; omega
      · rw [h1 e]; simp only [reduceIte]; omega
theorem zls_cl {A : Nat → Nat → Bool} (m : Nat) : ∀ t, (∀ x y, x < 5 → y < 5 → A x y = true → zls A t x ≤ m → zls A t y ≤ m) ∨ t + 1 ≤ zcn (fun y => decide (zls A t y ≤ m)) 5
  | 0 => by
    right
    have : zcn (fun _ => false) 5 < zcn (fun y => decide (zls A 0 y ≤ m)) 5 := zcn_more (y := 0) rfl (decide_eq_true (Nat.zero_le m)) 5 (by decide) (fun i _ h => by cases h)
    omega
  | t + 1 => by
    have mono : ∀ i, i < 5 → decide (zls A t i ≤ m) = true → decide (zls A (t + 1) i ≤ m) = true := fun i hi h => by
      rw [decide_eq_true_iff] at h ⊢
      have h1 := zlr_le A (zls A t) i 25 0
      rw [Nat.zero_add] at h1
      exact Nat.le_trans h1 h
    by_cases c : ∀ x y, x < 5 → y < 5 → A x y = true → zls A t x ≤ m → zls A t y ≤ m
    · left
      have key : ∀ y, y < 5 → zls A (t + 1) y ≤ m → zls A t y ≤ m := fun y hy hm =>
        zlr_inv (A := A) (fun j v => v ≤ m → zls A t j ≤ m) (fun i j v hi hj e hp hv => c i j hi hj e (hp hv)) (s := zls A t) (fun j hj h => h) 25 (Nat.le_refl _) y hy hm
      intro x y hx hy e hm
      have := c x y hx hy e (key x hx hm)
      have h2 := mono y hy (decide_eq_true this)
      exact of_decide_eq_true h2
    · right
      have c' : ∃ x y, x < 5 ∧ y < 5 ∧ A x y = true ∧ zls A t x ≤ m ∧ ¬ zls A t y ≤ m := by
        apply Classical.byContradiction
        intro z
        apply c
        intro x y hx hy e hm
        apply Classical.byContradiction
        intro w
        exact z ⟨x, y, hx, hy, e, hm, w⟩
      obtain ⟨x, y, hx, hy, e, h1, h2⟩ := c'
      have h3 : zls A (t + 1) y ≤ m := Nat.le_trans (zlr_edge hx hy e) h1
      have := zcn_more (p := fun y => decide (zls A t y ≤ m)) (q := fun y => decide (zls A (t + 1) y ≤ m)) (y := y) (decide_eq_false h2) (decide_eq_true h3) 5 hy mono
      rcases zls_cl m t with ih | ih
      · exact absurd (ih x y hx hy e h1) h2
      · omega
theorem zls_edge {A : Nat → Nat → Bool} (hs : ∀ i j, i < 5 → j < 5 → A i j = A j i) {x y : Nat} (hx : x < 5) (hy : y < 5) (e : A x y = true) : zls A 5 x = zls A 5 y := by
  have k : ∀ x y, x < 5 → y < 5 → A x y = true → zls A 5 y ≤ zls A 5 x := fun x y hx hy e => by
    rcases zls_cl (A := A) (zls A 5 x) 5 with ih | ih
    · exact ih x y hx hy e (Nat.le_refl _)
    · have := zcn_le (fun y => decide (zls A 5 y ≤ zls A 5 x)) 5
      omega
  have h1 := k x y hx hy e
  have h2 := k y x hy hx (by rw [hs y x hy hx]; exact e)
  omega
theorem zls_root {A : Nat → Nat → Bool} (hs : ∀ i j, i < 5 → j < 5 → A i j = A j i) {r : Nat} (hr : r < 5) : zls A 5 (zls A 5 r) = zls A 5 r := by
  have := zls_inv (A := A) (fun j v => zls A 5 j = zls A 5 r → zls A 5 v = zls A 5 r) (fun i j v hi hj e hp hv => hp (by rw [zls_edge hs hi hj e]; exact hv)) (fun j hj h => h) 5 r hr rfl
  exact this
/-- who is not the lowest of its set has a way out of any set without a lowest -/
theorem zls_out {A : Nat → Nat → Bool} (hs : ∀ i j, i < 5 → j < 5 → A i j = A j i) (U : Nat → Bool) {u : Nat} (hu : u < 5) (hU : U u = true) : (∃ x, x < 5 ∧ U x = true ∧ zls A 5 x = x) ∨ ∃ x y, x < 5 ∧ y < 5 ∧ U x = true ∧ U y = false ∧ A x y = true := by
  apply Classical.byContradiction
  intro z
  have cl : ∀ x y, x < 5 → y < 5 → U x = true → A x y = true → U y = true := fun x y hx hy h1 h2 => by
    cases e : U y
    · exact absurd (Or.inr ⟨x, y, hx, hy, h1, e, h2⟩) z
    · rfl
  have k := zls_inv (A := A) (fun j v => U j = true → U v = true) (fun i j v hi hj e hp hv => hp (cl j i hj hi hv (by rw [hs j i hj hi]; exact e))) (fun j hj h => h) 5 u hu hU
  exact z (Or.inl ⟨zls A 5 u, Nat.lt_of_le_of_lt (zls_le A u 5) hu, k, zls_root hs hu⟩)
/-! spreading -/
def zsp (w : Nat) (M : Nat → Nat) : Nat → Nat := fun i => if (M i).testBit w = true then M i ||| M w else M i
def zspA (M : Nat → Nat) : Nat → Nat → Nat
  | 0 => M
  | w + 1 => zsp w (zspA M w)
theorem zsp_self (w : Nat) (M : Nat → Nat) : zsp w M w = M w := by
  unfold zsp
  split
  · exact Nat.or_self _
  · rfl
theorem zsp_bit (w : Nat) (M : Nat → Nat) (i k : Nat) : (zsp w M i).testBit k = ((M i).testBit k || ((M i).testBit w && (M w).testBit k)) := by
  unfold zsp
  split
  · next c => rw [Nat.testBit_or, c, Bool.true_and]
  · next c =>
    rw [Bool.not_eq_true] at c
    rw [c, Bool.false_and, Bool.or_false]
theorem zspA_tr (M : Nat → Nat) : ∀ w i x k, x < w → (zspA M w i).testBit x = true → (zspA M w x).testBit k = true → (zspA M w i).testBit k = true
  | 0, i, x, k, hx, _, _ => by omega
  | w + 1, i, x, k, hx, h1, h2 => by
    have ih := zspA_tr M w
    rw [zspA] at h1 h2 ⊢
    generalize zspA M w = N at *
    rw [zsp_bit, Bool.or_eq_true, Bool.and_eq_true] at h1 h2 ⊢
    by_cases e : x = w
    · subst e
      rcases h1 with a | ⟨a, -⟩
      · rcases h2 with b | ⟨-, b⟩
        · exact Or.inr ⟨a, b⟩
        · exact Or.inr ⟨a, b⟩
      · rcases h2 with b | ⟨-, b⟩
        · exact Or.inr ⟨a, b⟩
        · exact Or.inr ⟨a, b⟩
    · have hx' : x < w := by omega
      rcases h1 with a | ⟨a, b⟩
      · rcases h2 with c | ⟨c, d⟩
        · exact Or.inl (ih i x k hx' a c)
        · exact Or.inr ⟨ih i x w hx' a c, d⟩
      · rcases h2 with c | ⟨c, d⟩
        · exact Or.inr ⟨a, ih w x k hx' b c⟩
        · exact Or.inr ⟨a, d⟩
theorem zspA_mono (M : Nat → Nat) (i k : Nat) (h : (M i).testBit k = true) : ∀ w, (zspA M w i).testBit k = true
  | 0 => h
  | w + 1 => by rw [zspA, zsp_bit, zspA_mono M i k h w]; rfl
theorem zspA_inv (M : Nat → Nat) (P : Nat → Nat → Prop) (h0 : ∀ i k, (M i).testBit k = true → P i k) (hP : ∀ i w k, P i w → P w k → P i k) : ∀ w i k, (zspA M w i).testBit k = true → P i k
  | 0, i, k, h => h0 i k h
  | w + 1, i, k, h => by
    rw [zspA, zsp_bit, Bool.or_eq_true, Bool.and_eq_true] at h
    rcases h with a | ⟨a, b⟩
    · exact zspA_inv M P h0 hP w i k a
    · exact hP i w k (zspA_inv M P h0 hP w i w a) (zspA_inv M P h0 hP w w k b)
theorem zor32 : ∀ a, a < 32 → ∀ b, b < 32 → a ||| b < 32 := by decide +kernel
theorem zspA_lt {M : Nat → Nat} (h : ∀ i, i < 5 → M i < 32) : ∀ w, w ≤ 5 → ∀ i, i < 5 → zspA M w i < 32
  | 0, _, i, hi => h i hi
  | w + 1, hw, i, hi => by
    have ih := zspA_lt h w (by omega)
    rw [zspA]
    unfold zsp
    split
    · exact zor32 _ (ih i hi) _ (ih w (by omega))
    · exact ih i hi
/-- a bit below: the lowest of the set is another -/
theorem zsp_low {A : Nat → Nat → Bool} (hs : ∀ i j, i < 5 → j < 5 → A i j = A j i) {M : Nat → Nat} (hM : ∀ i, i < 5 → M i < 32) (hb : ∀ i k, i < 5 → k < 5 → (M i).testBit k = A i k) {r : Nat} (hr : r < 5) : (∃ k, k < r ∧ (zspA M 5 r).testBit k = true) ↔ ¬ zls A 5 r = r := by
  have b5 : ∀ w, w ≤ 5 → ∀ i, i < 5 → ∀ k, (zspA M w i).testBit k = true → k < 5 := fun w hw i hi k h => by
    apply Classical.byContradiction
    intro z
    have h1 := zspA_lt hM w hw i hi
    have : (zspA M w i).testBit k = false := Nat.testBit_lt_two_pow (Nat.lt_of_lt_of_le h1 (Nat.pow_le_pow_right (n := 2) (by decide) (show 5 ≤ k by omega)))
    rw [this] at h
    cases h
  have b0 : ∀ i, i < 5 → ∀ k, (M i).testBit k = true → k < 5 := b5 0 (by omega)
  constructor
  · rintro ⟨k, hk, h⟩ e
    have q := zspA_inv M (fun i k => i < 5 → zls A 5 i = zls A 5 k ∧ k < 5) (fun i k h hi => ⟨zls_edge hs hi (b0 i hi k h) (by rw [← hb i k hi (b0 i hi k h)]; exact h), b0 i hi k h⟩) (fun i w k h1 h2 hi => ⟨(h1 hi).1.trans (h2 (h1 hi).2).1, (h2 (h1 hi).2).2⟩) 5 r k h hr
    have := zls_le A k 5
    omega
  · intro e
    have hl := zls_le A r 5
    have k := zls_inv (A := A) (fun j v => (j = r ∨ (zspA M 5 r).testBit j = true) → (v = r ∨ (zspA M 5 r).testBit v = true)) (fun i j v hi hj e hp hv => by
      apply hp
      right
      have hji : (zspA M 5 j).testBit i = true := zspA_mono M j i (by rw [hb j i hj hi, hs j i hj hi]; exact e) 5
      rcases hv with rfl | hv
      · exact hji
      · exact zspA_tr M 5 r j i hj hv hji) (fun j hj h => h) 5 r hr (Or.inl rfl)
    rcases k with k | k
    · exact absurd k e
    · exact ⟨zls A 5 r, by omega, k⟩
theorem zsp_zero {M : Nat → Nat} {r : Nat} : zspA M 5 r = 0 ↔ M r = 0 := by
  have k : ∀ w, M r = 0 → zspA M w r = 0 := fun w h => by
    induction w with
    | zero => exact h
    | succ w ih =>
      rw [zspA]
      unfold zsp
      rw [ih, Nat.zero_testBit]
      rfl
  constructor
  · intro h
    apply Classical.byContradiction
    intro z
    obtain ⟨k, hk⟩ := Nat.exists_testBit_of_ne_zero z
    have := zspA_mono M r k hk 5
    rw [h, Nat.zero_testBit] at this
    cases this
  · exact k 5

/-! ===== rounds: the search of the reference ===== -/
def zimb (b : Option Nat) (v : Nat) : Bool := match b with
  | none => true
  | some u => decide (v < u)
def zub (b : Option Nat) (v : Nat) : Option Nat := if zimb b v then some v else b
def zpb (ok : Nat → Bool) (v : Nat → Nat) (b : Option Nat) : Nat → Option Nat
  | 0 => b
  | x + 1 => if ok x && zimb (zpb ok v b x) (v x) then some (v x) else zpb ok v b x
def zpq (ok : Nat → Bool) (v : Nat → Nat) (b : Option Nat) : Nat → Option Nat
  | 0 => none
  | x + 1 => if ok x && zimb (zpb ok v b x) (v x) then some x else zpq ok v b x
theorem zpb_inv {ok : Nat → Bool} {v : Nat → Nat} {b : Option Nat} : ∀ x, (∀ y, y < x → ok y = true → zimb (zpb ok v b x) (v y) = false) ∧ ((zpb ok v b x = b ∧ zpq ok v b x = none) ∨ ∃ y, y < x ∧ ok y = true ∧ zpq ok v b x = some y ∧ zpb ok v b x = some (v y) ∧ zimb b (v y) = true ∧ ∀ z, z < y → ok z = true → v y < v z)
  | 0 => ⟨fun y h => by omega, Or.inl ⟨rfl, rfl⟩⟩
  | x + 1 => by
    obtain ⟨h1, h2⟩ := zpb_inv (ok := ok) (v := v) (b := b) x
    rw [zpb, zpq]
    by_cases c : (ok x && zimb (zpb ok v b x) (v x)) = true
    · rw [if_pos c, if_pos c]
      rw [Bool.and_eq_true] at c
      have low : ∀ z, z < x → ok z = true → v x < v z := fun z hz hk => by
        have a := h1 z hz hk
        have d := c.2
        revert a d
        cases zpb ok v b x with
        | none => intro a; cases a
        | some u =>
          intro a d
          have a := of_decide_eq_false a
          have d := of_decide_eq_true d
          omega
      refine ⟨fun y hy hk => ?_, Or.inr ⟨x, by omega, c.1, rfl, rfl, ?_, low⟩⟩
      · refine decide_eq_false ?_
        by_cases e : y = x
        · subst e; omega
        · have := low y (by omega) hk; omega
      · rcases h2 with h2 | ⟨y, y1, y2, y3, y4, y5, y6⟩
        · rw [← h2.1]; exact c.2
        · have := low y y1 y2
          revert y5
          cases b with
          | none => intro _; rfl
          | some u =>
            intro y5
            have := of_decide_eq_true y5
            exact decide_eq_true (by omega)
    · rw [if_neg c, if_neg c]
      refine ⟨fun y hy hk => ?_, ?_⟩
      · by_cases e : y = x
        · subst e
          rw [hk, Bool.true_and] at c
          simpa using c
        · exact h1 y (by omega) hk
      · rcases h2 with h2 | ⟨y, y1, y2, y3, y4, y5, y6⟩
        · exact Or.inl h2
        · exact Or.inr ⟨y, by omega, y2, y3, y4, y5, y6⟩
/-- all ways of a place: the best is the least, and its way the first -/
theorem zpb_end {P : Nat → Nat → Nat} {N F : Nat → Nat} {m i : Nat} {ρ : Nat → Nat} {c : Nat} {b : Option Nat} : zpb (fun x => decide (x = 40) || zokb N F ρ i x) (fun x => c + zvw P N F m i ρ x) b 41 = zub b (c + zLw P N F (m + 1) i ρ) ∧ zpq (fun x => decide (x = 40) || zokb N F ρ i x) (fun x => c + zvw P N F m i ρ x) b 41 = if zimb b (c + zLw P N F (m + 1) i ρ) then some (zfx P N F m i ρ) else none := by
  obtain ⟨h1, h2⟩ := zpb_inv (ok := fun x => decide (x = 40) || zokb N F ρ i x) (v := fun x => c + zvw P N F m i ρ x) (b := b) 41
  have fx := zfx_spec P N F m i ρ
  have fle : zfx P N F m i ρ ≤ 40 := zfw_le 40
  have fok : (decide (zfx P N F m i ρ = 40) || zokb N F ρ i (zfx P N F m i ρ)) = true := by
    by_cases e : zfx P N F m i ρ < 40
    · have q : zokb N F ρ i (zfx P N F m i ρ) = true := (zfw_is 40 e).1
      rw [q, Bool.or_true]
    · rw [decide_eq_true (show zfx P N F m i ρ = 40 by omega), Bool.true_or]
  have mle : ∀ y, y < 41 → (decide (y = 40) || zokb N F ρ i y) = true → zLw P N F (m + 1) i ρ ≤ zvw P N F m i ρ y := fun y hy hk => by
    rw [zLw]
    unfold zvw
    by_cases e : y = 40
    · subst e
      rw [zsub_40]
      exact zmn_z 40
    · rw [decide_eq_false e, Bool.false_or] at hk
      exact zmn_v (v := fun x => P i (x / 8) + zLw P N F m (i + 1) (zsub ρ x)) hk 40 (by omega)
  rcases h2 with ⟨e1, e2⟩ | ⟨y, y1, y2, y3, y4, y5, y6⟩
  · have no := h1 _ (show zfx P N F m i ρ < 41 by omega) fok
    try dsimp only at no
    rw [e1, fx] at no
    unfold zub
    rw [e1, e2, no]
    exact ⟨rfl, rfl⟩
  · have no := h1 _ (show zfx P N F m i ρ < 41 by omega) fok
    try dsimp only at no y2 y4 y5 y6
    rw [y4, fx] at no
    have no := of_decide_eq_false no
    have le := mle y y1 y2
    have ev : zvw P N F m i ρ y = zLw P N F (m + 1) i ρ := by omega
    rw [ev] at y4 y5
    have ey : zfx P N F m i ρ = y := zfw_eq (by omega) (fun z hz hh => by
      have := y6 z hz (by rw [hh.1, Bool.or_true])
      omega) (fun hy => by
      rw [decide_eq_false (show ¬ y = 40 by omega), Bool.false_or] at y2
      exact ⟨y2, ev⟩)
    unfold zub
    rw [y3, y4, y5, ey]
    exact ⟨rfl, rfl⟩
/-- the cells of the search -/
def zfrm (h h' : zHp) : Prop := ∀ k, k ≠ 96 → k ≠ 97 → k ≠ 98 → k ≠ 99 → h'.1 k = h.1 k
theorem zfrm.rf (h : zHp) : zfrm h h := fun _ _ _ _ _ => rfl
theorem zfrm.tr {a b c : zHp} (h1 : zfrm a b) (h2 : zfrm b c) : zfrm a c := fun k x y z w => (h2 k x y z w).trans (h1 k x y z w)
theorem zAs_fr {h0 h h' : zHp} {nc nl nt t nk : Nat} (A : zAs h0 nc nl nt t nk h) (fr : zfrm h h') : zAs h0 nc nl nt t nk h' := by
  obtain ⟨a1, a2, a3, a4⟩ := A
  unfold zAs
  rw [fr 67 (by decide) (by decide) (by decide) (by decide), fr 93 (by decide) (by decide) (by decide) (by decide), fr 94 (by decide) (by decide) (by decide) (by decide), fr 95 (by decide) (by decide) (by decide) (by decide)]
  refine ⟨a1.tr ⟨fun c hc => ?_, fun j _ _ => by rw [fr 67 (by decide) (by decide) (by decide) (by decide)]⟩, a2, a3, a4⟩
  have ne : ∀ d, zscr d = true → c ≠ d := fun d hd z => by rw [z, hd] at hc; cases hc
  exact fr c (ne 96 (by decide)) (ne 97 (by decide)) (ne 98 (by decide)) (ne 99 (by decide))
/-- copying the way -/
theorem m_cp (k43 : Int32 → Int32 → Int32 → zHp → Option (Int32 × zHp)) (a1 a2 a3 : Int32) {s : Nat} (hs : s ≤ 6) : ∀ m j f (h : zHp), j + m = s → m < f → h.1 67 32 = nI s → ∃ h2 : zHp, s_X10_findRounds_L79 k43 f a1 a2 a3 (nI j) h = k43 a1 a2 (a3 + (-1 : Int32)) h2 ∧ zbut 97 h h2 ∧ (∀ q, q < j → h2.1 97 q = h.1 97 q) ∧ (∀ q, j ≤ q → q < s → h2.1 97 q = h.1 96 q)
  | 0, j, f + 1, h, hm, hf, h32 => by
    obtain rfl : j = s := by omega
    refine ⟨h, ?_, zbut.rf 97 h, fun _ _ => rfl, fun q h1 h2 => by omega⟩
    rw [s_X10_findRounds_L79, h32, if_pos (nI_le (Nat.le_refl j) (by omega))]
    rfl
  | m + 1, j, f + 1, h, hm, hf, h32 => by
    obtain ⟨g, g1, g2, g3, g4⟩ := m_cp k43 a1 a2 a3 hs m (j + 1) f (zwi h 97 j (h.1 96 j)) (by omega) (by omega) (by rw [zwi_ne 67 (by decide)]; exact h32)
    refine ⟨g, ?_, ((zbut.rf 97 h).wi _ _).tr g2, fun q hq => by rw [g3 q (by omega), zwi_self, pk_un (by omega)], fun q h1 h2 => ?_⟩
    · rw [s_X10_findRounds_L79, h32, if_neg (nI_ge (show j < s by omega) (by omega)), zbs (zriA (show j < 6 by omega) (by decide) h 96), zbs (zuiA (show j < 6 by omega) (by decide) h 97 _), nI_1]
      exact g1
    · by_cases e : q = j
      · subst e; rw [g3 q (by omega), zwi_self, pk_us]
      · rw [g4 q (by omega) h2, zwi_ne 96 (by decide)]
/-- how many steps -/
def zTm : Nat → Nat
  | 0 => 1
  | m + 1 => 1 + 41 * (zTm m + 1)
/-- what stands behind a search from a place -/
def zRs (P : Nat → Nat → Nat) (N F : Nat → Nat) (s m i cap c : Nat) (ρ : Nat → Nat) (b : Option Nat) (h h2 : zHp) : Prop := zfrm h h2 ∧ zUs h2 cap ρ ∧ (∀ j, j < i → h2.1 96 j = h.1 96 j) ∧ (∀ j, j ≤ i → h2.1 98 j = h.1 98 j) ∧ (if zimb b (c + zLw P N F m i ρ) then (∀ j, j < i → h2.1 97 j = h.1 96 j) ∧ (∀ j, i ≤ j → j < s → h2.1 97 j = nI (zgw P N F m i ρ j)) else ∀ j, j < s → h2.1 97 j = h.1 97 j)
/-- the ways that a place has behind it -/
def zW7 (P : Nat → Nat → Nat) (N F : Nat → Nat) (s m i : Nat) (ρ : Nat → Nat) (g96 g97 : Nat → Int32) (q : Option Nat) (h : zHp) : Prop := match q with
  | none => ∀ j, j < s → h.1 97 j = g97 j
  | some y => (∀ j, j < i → h.1 97 j = g96 j) ∧ h.1 97 i = nI y ∧ ∀ j, i + 1 ≤ j → j < s → h.1 97 j = nI (zgw P N F m (i + 1) (zsub ρ y) j)
theorem zoi_lt (b : Option Nat) (hb : ∀ u, b = some u → u ≤ 240000000) : (zoi b < 0 ↔ b = none) := by
  cases b with
  | none => exact ⟨fun _ => rfl, fun _ => zm1lt⟩
  | some u => exact ⟨fun z => absurd z (nI_pos (by have := hb u rfl; omega)), fun z => by cases z⟩

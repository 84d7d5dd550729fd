/-! ===== the invariant: class and reference hold the same, within bounds ===== -/
def zcb (f : Nat → Int32) : Nat → Nat
  | 0 => 0
  | n + 1 => zcb f n + if 0 ≤ f n then 1 else 0
def zId (h : zHp) (t : Nat) : Prop := h.1 0 14 = nI t ∧ h.1 67 0 = nI t ∧ t ≤ 1500
def zIc (h : zHp) (n : Nat) : Prop := (h.1 6 6 = nI n ∧ h.1 67 1 = nI n ∧ n ≤ 40) ∧ (h.1 7 = h.1 68 ∧ h.1 8 = h.1 69 ∧ h.1 9 = h.1 70 ∧ h.1 11 = h.1 72 ∧ h.1 12 = h.1 73) ∧ (∀ i, i < n → ∃ g, g < 5 ∧ h.1 7 i = nI g) ∧ (∀ i, i < n → ∃ p, p ≤ 50 ∧ h.1 8 i = nI p) ∧ (∀ i, i < n → h.1 71 i = h.1 10 i ∧ (h.1 10 i = -1 ∨ ∃ j, i < j ∧ j < n ∧ h.1 10 i = nI j)) ∧ (∀ i, n ≤ i → i < 40 → h.1 10 i = -1) ∧ (∀ g, g < 5 → ∃ m, m ≤ 200 ∧ h.1 12 g = nI m)
def zIk (h : zHp) (k : Nat) : Prop := (h.1 13 10 = nI k ∧ h.1 67 8 = nI k ∧ k ≤ 20) ∧ (h.1 14 = h.1 74 ∧ h.1 15 = h.1 75 ∧ h.1 16 = h.1 76 ∧ h.1 17 = h.1 77 ∧ h.1 18 = h.1 78 ∧ h.1 19 = h.1 80 ∧ h.1 20 = h.1 79) ∧ (∀ i, i < k → (∃ a, a < 4 ∧ h.1 14 i = nI a) ∧ (∃ a, a < 6 ∧ h.1 15 i = nI a) ∧ (∃ a, 1 ≤ a ∧ a ≤ 999 ∧ h.1 16 i = nI a) ∧ (∃ a, a < 10 ∧ h.1 17 i = nI a) ∧ (∃ a, a < 256 ∧ h.1 18 i = nI a)) ∧ (∀ i, h.1 20 i = 0 ∨ h.1 20 i = 1)
def zIs (h : zHp) : Prop := (h.1 21 = h.1 106 ∧ h.1 22 = h.1 107 ∧ h.1 23 = h.1 108) ∧ (∀ i, i < 20 → ∃ s, s ≤ 8 ∧ h.1 21 i = nI s ∧ ∀ r, r < s → ∃ f e, f ≤ e ∧ e ≤ 1500 ∧ h.1 22 (8 * i + r) = nI f ∧ h.1 23 (8 * i + r) = nI e)
def zIm (h : zHp) : Prop := h.1 1 = h.1 88 ∧ h.1 2 = h.1 81 ∧ (∀ i, h.1 2 i = 0 ∨ h.1 2 i = 1) ∧ h.1 3 = h.1 92 ∧ (∀ i, i < 4 → ∃ b, 1 ≤ b ∧ b ≤ 50 ∧ h.1 3 i = nI b) ∧ (∃ c, 1 ≤ c ∧ c ≤ 9 ∧ h.1 0 15 = nI c ∧ h.1 67 30 = nI c)
def zIl (h : zHp) (n k t : Nat) : Prop := (h.1 24 8 = nI n ∧ h.1 67 17 = nI n ∧ n ≤ 80) ∧ (h.1 25 = h.1 82 ∧ h.1 26 = h.1 83 ∧ h.1 27 = h.1 84 ∧ h.1 28 = h.1 85 ∧ h.1 30 = h.1 87) ∧ (∀ i, i < n → (∃ a, a < k ∧ h.1 25 i = nI a) ∧ (∃ a, a < 5 ∧ h.1 26 i = nI a) ∧ (∃ a, a ≤ t ∧ h.1 27 i = nI a) ∧ (∃ a, a ≤ t ∧ h.1 28 i = nI a) ∧ ((h.1 29 i = 1501 ∧ h.1 86 i = -1) ∨ ∃ b, b ≤ t ∧ h.1 29 i = nI b ∧ h.1 86 i = nI b)) ∧ (∀ i, n ≤ i → i < 80 → h.1 29 i = 1501) ∧ (∀ r, r < 3200 → ∃ f, f ≤ 99 ∧ h.1 30 r = nI f) ∧ h.1 24 9 = nI (zcb (h.1 86) n)
def zIt (h : zHp) (n : Nat) : Prop := (h.1 32 2 = nI n ∧ h.1 67 26 = nI n ∧ n ≤ 10) ∧ (h.1 33 = h.1 90 ∧ h.1 34 = h.1 91) ∧ (∀ i, i < n → (∃ d, d ≤ 1500 ∧ h.1 33 i = nI d) ∧ ∃ a b c d, a ≤ b ∧ b ≤ c ∧ c ≤ d ∧ d ≤ 999 ∧ h.1 34 (4 * i) = nI a ∧ h.1 34 (4 * i + 1) = nI b ∧ h.1 34 (4 * i + 2) = nI c ∧ h.1 34 (4 * i + 3) = nI d)
def zIp (h : zHp) (n : Nat) : Prop := (h.1 52 7 = nI n ∧ h.1 67 51 = nI n ∧ n ≤ 20) ∧ (h.1 53 = h.1 109 ∧ h.1 54 = h.1 110 ∧ h.1 55 = h.1 111 ∧ h.1 56 = h.1 112) ∧ (∀ i, i < n → (∃ a, a < 6 ∧ h.1 53 i = nI a) ∧ (∃ a, a < 8 ∧ h.1 56 i = nI a) ∧ ∃ f e, f ≤ e ∧ e ≤ 1500 ∧ h.1 54 i = nI f ∧ h.1 55 i = nI e)
def zIr (h : zHp) : Prop := (h.1 60 = h.1 113 ∧ h.1 61 = h.1 114) ∧ (∀ i, i < 6 → ∃ m, m ≤ 12 ∧ h.1 60 i = nI m) ∧ (∀ r, r < 72 → ∃ c, c ≤ 999 ∧ h.1 61 r = nI c)
def zIN (h : zHp) (t nc nk nl nt np : Nat) : Prop := zId h t ∧ zIc h nc ∧ zIk h nk ∧ zIs h ∧ zIm h ∧ zIl h nl nk t ∧ zIt h nt ∧ zIp h np ∧ zIr h
def zI (h : zHp) : Prop := ∃ t nc nk nl nt np, zIN h t nc nk nl nt np
def zscr (k : Nat) : Bool := [4, 5, 31, 35, 36, 37, 38, 39, 40, 41, 42, 43, 44, 45, 46, 47, 48, 49, 50, 51, 57, 58, 62, 63, 64, 65, 66, 67, 89, 93, 94, 95, 96, 97, 98, 99, 100, 101, 102, 103, 104, 105, 115, 116].contains k
/-- the same but for the cells that a call works in -/
def zSame (h h' : zHp) : Prop := (∀ k, zscr k = false → h'.1 k = h.1 k) ∧ (∀ j, j ≠ 32 → j ≠ 43 → h'.1 67 j = h.1 67 j)
theorem zSame.rf (h : zHp) : zSame h h := ⟨fun _ _ => rfl, fun _ _ _ => rfl⟩
theorem zSame.tr {a b c : zHp} (h1 : zSame a b) (h2 : zSame b c) : zSame a c := ⟨fun k hk => (h2.1 k hk).trans (h1.1 k hk), fun j a b => (h2.2 j a b).trans (h1.2 j a b)⟩
theorem zSame.wi {h h' : zHp} (hs : zSame h h') (k i : Nat) (x : Int32) (hk : zscr k = true) (h67 : k ≠ 67 ∨ i = 32 ∨ i = 43) : zSame h (zwi h' k i x) := by
  refine ⟨fun j hj => ?_, fun j h1 h2 => ?_⟩
  · have hne : j ≠ k := fun e => by rw [e, hk] at hj; cases hj
    rw [zwi_ne j hne]; exact hs.1 j hj
  · by_cases hk67 : 67 = k
    · subst hk67
      have hji : j ≠ i := by
        rcases h67 with z | z | z
        · exact absurd rfl z
        · omega
        · omega
      rw [zwi_self, pk_un hji]; exact hs.2 j h1 h2
    · rw [zwi_ne 67 hk67]; exact hs.2 j h1 h2
theorem zSame.wl {h h' : zHp} (hs : zSame h h') (k i : Nat) (x : Int64) : zSame h (zwl h' k i x) := hs
theorem zSame.of {h h' : zHp} (S : List Nat) (hS : S.all (fun k => zscr k && k != 67) = true) (ha : ∀ k, k ∉ S → h'.1 k = h.1 k) : zSame h h' := by
  have key : ∀ k ∈ S, zscr k = true ∧ k ≠ 67 := fun k hk => by
    have := List.all_eq_true.mp hS k hk
    simp only [Bool.and_eq_true, bne_iff_ne, ne_eq] at this
    exact this
  refine ⟨fun k hk => ha k (fun hm => by rw [(key k hm).1] at hk; cases hk), fun j _ _ => ?_⟩
  rw [ha 67 (fun hm => (key 67 hm).2 rfl)]
theorem zIN_same {h h' : zHp} {t nc nk nl nt np : Nat} (hs : zSame h h') (hI : zIN h t nc nk nl nt np) : zIN h' t nc nk nl nt np := by
  have e0 : h'.1 0 = h.1 0 := hs.1 0 (by decide)
  have e1 : h'.1 1 = h.1 1 := hs.1 1 (by decide)
  have e2 : h'.1 2 = h.1 2 := hs.1 2 (by decide)
  have e3 : h'.1 3 = h.1 3 := hs.1 3 (by decide)
  have e6 : h'.1 6 = h.1 6 := hs.1 6 (by decide)
  have e7 : h'.1 7 = h.1 7 := hs.1 7 (by decide)
  have e8 : h'.1 8 = h.1 8 := hs.1 8 (by decide)
  have e9 : h'.1 9 = h.1 9 := hs.1 9 (by decide)
  have e10 : h'.1 10 = h.1 10 := hs.1 10 (by decide)
  have e11 : h'.1 11 = h.1 11 := hs.1 11 (by decide)
  have e12 : h'.1 12 = h.1 12 := hs.1 12 (by decide)
  have e13 : h'.1 13 = h.1 13 := hs.1 13 (by decide)
  have e14 : h'.1 14 = h.1 14 := hs.1 14 (by decide)
  have e15 : h'.1 15 = h.1 15 := hs.1 15 (by decide)
  have e16 : h'.1 16 = h.1 16 := hs.1 16 (by decide)
  have e17 : h'.1 17 = h.1 17 := hs.1 17 (by decide)
  have e18 : h'.1 18 = h.1 18 := hs.1 18 (by decide)
  have e19 : h'.1 19 = h.1 19 := hs.1 19 (by decide)
  have e20 : h'.1 20 = h.1 20 := hs.1 20 (by decide)
  have e21 : h'.1 21 = h.1 21 := hs.1 21 (by decide)
  have e22 : h'.1 22 = h.1 22 := hs.1 22 (by decide)
  have e23 : h'.1 23 = h.1 23 := hs.1 23 (by decide)
  have e24 : h'.1 24 = h.1 24 := hs.1 24 (by decide)
  have e25 : h'.1 25 = h.1 25 := hs.1 25 (by decide)
  have e26 : h'.1 26 = h.1 26 := hs.1 26 (by decide)
  have e27 : h'.1 27 = h.1 27 := hs.1 27 (by decide)
  have e28 : h'.1 28 = h.1 28 := hs.1 28 (by decide)
  have e29 : h'.1 29 = h.1 29 := hs.1 29 (by decide)
  have e30 : h'.1 30 = h.1 30 := hs.1 30 (by decide)
  have e32 : h'.1 32 = h.1 32 := hs.1 32 (by decide)
  have e33 : h'.1 33 = h.1 33 := hs.1 33 (by decide)
  have e34 : h'.1 34 = h.1 34 := hs.1 34 (by decide)
  have e52 : h'.1 52 = h.1 52 := hs.1 52 (by decide)
  have e53 : h'.1 53 = h.1 53 := hs.1 53 (by decide)
  have e54 : h'.1 54 = h.1 54 := hs.1 54 (by decide)
  have e55 : h'.1 55 = h.1 55 := hs.1 55 (by decide)
  have e56 : h'.1 56 = h.1 56 := hs.1 56 (by decide)
  have e59 : h'.1 59 = h.1 59 := hs.1 59 (by decide)
  have e60 : h'.1 60 = h.1 60 := hs.1 60 (by decide)
  have e61 : h'.1 61 = h.1 61 := hs.1 61 (by decide)
  have e68 : h'.1 68 = h.1 68 := hs.1 68 (by decide)
  have e69 : h'.1 69 = h.1 69 := hs.1 69 (by decide)
  have e70 : h'.1 70 = h.1 70 := hs.1 70 (by decide)
  have e71 : h'.1 71 = h.1 71 := hs.1 71 (by decide)
  have e72 : h'.1 72 = h.1 72 := hs.1 72 (by decide)
  have e73 : h'.1 73 = h.1 73 := hs.1 73 (by decide)
  have e74 : h'.1 74 = h.1 74 := hs.1 74 (by decide)
  have e75 : h'.1 75 = h.1 75 := hs.1 75 (by decide)
  have e76 : h'.1 76 = h.1 76 := hs.1 76 (by decide)
  have e77 : h'.1 77 = h.1 77 := hs.1 77 (by decide)
  have e78 : h'.1 78 = h.1 78 := hs.1 78 (by decide)
  have e79 : h'.1 79 = h.1 79 := hs.1 79 (by decide)
  have e80 : h'.1 80 = h.1 80 := hs.1 80 (by decide)
  have e81 : h'.1 81 = h.1 81 := hs.1 81 (by decide)
  have e82 : h'.1 82 = h.1 82 := hs.1 82 (by decide)
  have e83 : h'.1 83 = h.1 83 := hs.1 83 (by decide)
  have e84 : h'.1 84 = h.1 84 := hs.1 84 (by decide)
  have e85 : h'.1 85 = h.1 85 := hs.1 85 (by decide)
  have e86 : h'.1 86 = h.1 86 := hs.1 86 (by decide)
  have e87 : h'.1 87 = h.1 87 := hs.1 87 (by decide)
  have e88 : h'.1 88 = h.1 88 := hs.1 88 (by decide)
  have e90 : h'.1 90 = h.1 90 := hs.1 90 (by decide)
  have e91 : h'.1 91 = h.1 91 := hs.1 91 (by decide)
  have e92 : h'.1 92 = h.1 92 := hs.1 92 (by decide)
  have e106 : h'.1 106 = h.1 106 := hs.1 106 (by decide)
  have e107 : h'.1 107 = h.1 107 := hs.1 107 (by decide)
  have e108 : h'.1 108 = h.1 108 := hs.1 108 (by decide)
  have e109 : h'.1 109 = h.1 109 := hs.1 109 (by decide)
  have e110 : h'.1 110 = h.1 110 := hs.1 110 (by decide)
  have e111 : h'.1 111 = h.1 111 := hs.1 111 (by decide)
  have e112 : h'.1 112 = h.1 112 := hs.1 112 (by decide)
  have e113 : h'.1 113 = h.1 113 := hs.1 113 (by decide)
  have e114 : h'.1 114 = h.1 114 := hs.1 114 (by decide)
  have f0 : h'.1 67 0 = h.1 67 0 := hs.2 0 (by decide) (by decide)
  have f1 : h'.1 67 1 = h.1 67 1 := hs.2 1 (by decide) (by decide)
  have f8 : h'.1 67 8 = h.1 67 8 := hs.2 8 (by decide) (by decide)
  have f17 : h'.1 67 17 = h.1 67 17 := hs.2 17 (by decide) (by decide)
  have f26 : h'.1 67 26 = h.1 67 26 := hs.2 26 (by decide) (by decide)
  have f30 : h'.1 67 30 = h.1 67 30 := hs.2 30 (by decide) (by decide)
  have f51 : h'.1 67 51 = h.1 67 51 := hs.2 51 (by decide) (by decide)
  simp only [zIN, zId, zIc, zIk, zIs, zIm, zIl, zIt, zIp, zIr, e0, e1, e2, e3, e6, e7, e8, e9, e10, e11, e12, e13, e14, e15, e16, e17, e18, e19, e20, e21, e22, e23, e24, e25, e26, e27, e28, e29, e30, e32, e33, e34, e52, e53, e54, e55, e56, e60, e61, e68, e69, e70, e71, e72, e73, e74, e75, e76, e77, e78, e79, e80, e81, e82, e83, e84, e85, e86, e87, e88, e90, e91, e92, e106, e107, e108, e109, e110, e111, e112, e113, e114, f0, f1, f8, f17, f26, f30, f51] at hI ⊢
  exact hI
theorem zI_same {h h' : zHp} (hs : zSame h h') (hI : zI h) : zI h' := by
  obtain ⟨t, nc, nk, nl, nt, np, hI⟩ := hI
  exact ⟨t, nc, nk, nl, nt, np, zIN_same hs hI⟩
/-! ===== refusals ===== -/
theorem zbq {α : Type} (x : Option (α × zHp)) : (x.bind fun q => some (q.1, q.2)) = x := by cases x <;> rfl
def zr1 (h : zHp) (k : Nat) : zHp := zwi h 1 k (h.1 1 k + 1)
def zr2 (h : zHp) (k : Nat) : zHp := zwi h 88 k (h.1 88 k + 1)
theorem e_rf1 (h : zHp) : s_X9_refused (-1) h = some (-1, zr1 h 1) := by
  unfold s_X9_refused s_X9_refused_L21
  rw [if_neg (by decide), if_neg (by decide), zbs rfl, show (-(-1 : Int32)) = nI 1 from by decide, zbs (zri_ok (by decide) (by decide)), zbs (zui_ok (by decide) (by decide))]
  rfl
theorem e_mf1 (h : zHp) : s_X10_refuse (-1) h = some (-1, zr2 h 1) := by
  unfold s_X10_refuse
  rw [zbs rfl, show (-(-1 : Int32)) = nI 1 from by decide, zbs (zri_ok (by decide) (by decide)), zbs (zui_ok (by decide) (by decide))]
  rfl
theorem e_rf2 (h : zHp) : s_X9_refused (-2) h = some (-2, zr1 h 2) := by
  unfold s_X9_refused s_X9_refused_L21
  rw [if_neg (by decide), if_neg (by decide), zbs rfl, show (-(-2 : Int32)) = nI 2 from by decide, zbs (zri_ok (by decide) (by decide)), zbs (zui_ok (by decide) (by decide))]
  rfl
theorem e_mf2 (h : zHp) : s_X10_refuse (-2) h = some (-2, zr2 h 2) := by
  unfold s_X10_refuse
  rw [zbs rfl, show (-(-2 : Int32)) = nI 2 from by decide, zbs (zri_ok (by decide) (by decide)), zbs (zui_ok (by decide) (by decide))]
  rfl
theorem e_rf3 (h : zHp) : s_X9_refused (-3) h = some (-3, zr1 h 3) := by
  unfold s_X9_refused s_X9_refused_L21
  rw [if_neg (by decide), if_neg (by decide), zbs rfl, show (-(-3 : Int32)) = nI 3 from by decide, zbs (zri_ok (by decide) (by decide)), zbs (zui_ok (by decide) (by decide))]
  rfl
theorem e_mf3 (h : zHp) : s_X10_refuse (-3) h = some (-3, zr2 h 3) := by
  unfold s_X10_refuse
  rw [zbs rfl, show (-(-3 : Int32)) = nI 3 from by decide, zbs (zri_ok (by decide) (by decide)), zbs (zui_ok (by decide) (by decide))]
  rfl
theorem e_rf4 (h : zHp) : s_X9_refused (-4) h = some (-4, zr1 h 4) := by
  unfold s_X9_refused s_X9_refused_L21
  rw [if_neg (by decide), if_neg (by decide), zbs rfl, show (-(-4 : Int32)) = nI 4 from by decide, zbs (zri_ok (by decide) (by decide)), zbs (zui_ok (by decide) (by decide))]
  rfl
theorem e_mf4 (h : zHp) : s_X10_refuse (-4) h = some (-4, zr2 h 4) := by
  unfold s_X10_refuse
  rw [zbs rfl, show (-(-4 : Int32)) = nI 4 from by decide, zbs (zri_ok (by decide) (by decide)), zbs (zui_ok (by decide) (by decide))]
  rfl
theorem e_rf6 (h : zHp) : s_X9_refused (-6) h = some (-6, zr1 h 6) := by
  unfold s_X9_refused s_X9_refused_L21
  rw [if_neg (by decide), if_neg (by decide), zbs rfl, show (-(-6 : Int32)) = nI 6 from by decide, zbs (zri_ok (by decide) (by decide)), zbs (zui_ok (by decide) (by decide))]
  rfl
theorem e_mf6 (h : zHp) : s_X10_refuse (-6) h = some (-6, zr2 h 6) := by
  unfold s_X10_refuse
  rw [zbs rfl, show (-(-6 : Int32)) = nI 6 from by decide, zbs (zri_ok (by decide) (by decide)), zbs (zui_ok (by decide) (by decide))]
  rfl
theorem e_rf7 (h : zHp) : s_X9_refused (-7) h = some (-7, zr1 h 7) := by
  unfold s_X9_refused s_X9_refused_L21
  rw [if_neg (by decide), if_neg (by decide), zbs rfl, show (-(-7 : Int32)) = nI 7 from by decide, zbs (zri_ok (by decide) (by decide)), zbs (zui_ok (by decide) (by decide))]
  rfl
theorem e_mf7 (h : zHp) : s_X10_refuse (-7) h = some (-7, zr2 h 7) := by
  unfold s_X10_refuse
  rw [zbs rfl, show (-(-7 : Int32)) = nI 7 from by decide, zbs (zri_ok (by decide) (by decide)), zbs (zui_ok (by decide) (by decide))]
  rfl
theorem zI_ref {h : zHp} (k : Nat) (hI : zI h) : zI (zr2 (zr1 h k) k) := by
  obtain ⟨t, nc, nk, nl, nt, np, h1, h2, h3, h4, h5, h6, h7, h8, h9⟩ := hI
  refine ⟨t, nc, nk, nl, nt, np, h1, h2, h3, h4, ⟨?_, h5.2⟩, h6, h7, h8, h9⟩
  have e : h.1 1 = h.1 88 := h5.1
  show upd (h.1 1) k (h.1 1 k + 1) = upd (h.1 88) k (h.1 88 k + 1)
  rw [e]
/-- class and reference answer alike, and the invariant holds behind them -/
def zop (f g : zHp → Option (Int32 × zHp)) (h : zHp) : Prop := ∃ q1 q2, f h = some q1 ∧ g q1.2 = some q2 ∧ q1.1 = q2.1 ∧ zI q2.2
def zopL (f g : zHp → Option (Int64 × zHp)) (h : zHp) : Prop := ∃ q1 q2, f h = some q1 ∧ g q1.2 = some q2 ∧ q1.1 = q2.1 ∧ zI q2.2
theorem zop_r1 {f g : zHp → Option (Int32 × zHp)} {h : zHp} (hI : zI h) (hf : f h = s_X9_refused (-1) h) (hg : g (zr1 h 1) = s_X10_refuse (-1) (zr1 h 1)) : zop f g h :=
  ⟨_, _, hf.trans (e_rf1 h), hg.trans (e_mf1 _), rfl, zI_ref 1 hI⟩
theorem zop_r2 {f g : zHp → Option (Int32 × zHp)} {h : zHp} (hI : zI h) (hf : f h = s_X9_refused (-2) h) (hg : g (zr1 h 2) = s_X10_refuse (-2) (zr1 h 2)) : zop f g h :=
  ⟨_, _, hf.trans (e_rf2 h), hg.trans (e_mf2 _), rfl, zI_ref 2 hI⟩
theorem zop_r3 {f g : zHp → Option (Int32 × zHp)} {h : zHp} (hI : zI h) (hf : f h = s_X9_refused (-3) h) (hg : g (zr1 h 3) = s_X10_refuse (-3) (zr1 h 3)) : zop f g h :=
  ⟨_, _, hf.trans (e_rf3 h), hg.trans (e_mf3 _), rfl, zI_ref 3 hI⟩
theorem zop_r4 {f g : zHp → Option (Int32 × zHp)} {h : zHp} (hI : zI h) (hf : f h = s_X9_refused (-4) h) (hg : g (zr1 h 4) = s_X10_refuse (-4) (zr1 h 4)) : zop f g h :=
  ⟨_, _, hf.trans (e_rf4 h), hg.trans (e_mf4 _), rfl, zI_ref 4 hI⟩
theorem zop_r6 {f g : zHp → Option (Int32 × zHp)} {h : zHp} (hI : zI h) (hf : f h = s_X9_refused (-6) h) (hg : g (zr1 h 6) = s_X10_refuse (-6) (zr1 h 6)) : zop f g h :=
  ⟨_, _, hf.trans (e_rf6 h), hg.trans (e_mf6 _), rfl, zI_ref 6 hI⟩
theorem zop_r7 {f g : zHp → Option (Int32 × zHp)} {h : zHp} (hI : zI h) (hf : f h = s_X9_refused (-7) h) (hg : g (zr1 h 7) = s_X10_refuse (-7) (zr1 h 7)) : zop f g h :=
  ⟨_, _, hf.trans (e_rf7 h), hg.trans (e_mf7 _), rfl, zI_ref 7 hI⟩
theorem zop_ok {f g : zHp → Option (Int32 × zHp)} {h h1 h2 : zHp} {r : Int32} (hf : f h = some (r, h1)) (hg : g h1 = some (r, h2)) (hI : zI h2) : zop f g h := ⟨_, _, hf, hg, rfl, hI⟩
/-! ===== small helpers ===== -/
theorem zbo0 : zbo 0 = some () := by unfold zbo; rw [if_pos zbo_0]
theorem zbo1 : zbo 1 = some () := by unfold zbo; rw [if_pos zbo_1]
theorem e_wi0 {a b : Int32} {h : zHp} (hc : a < 0 ∨ b ≤ a) : s_X9_isWithin a b h = some (0, h) := by
  unfold s_X9_isWithin s_X9_isWithin_L13 s_X9_isWithin_L14
  by_cases h1 : a < 0
  · rw [if_pos h1, zbs zbo0]
  · rw [if_neg h1, if_pos (hc.resolve_left h1), zbs zbo0]
theorem e_wi1 {a b : Int32} {h : zHp} (h1 : ¬ a < 0) (h2 : ¬ b ≤ a) : s_X9_isWithin a b h = some (1, h) := by
  unfold s_X9_isWithin s_X9_isWithin_L14
  rw [if_neg h1, if_neg h2, zbs zbo1]
theorem e_in0 {a b c : Int32} {h : zHp} (hc : a < b ∨ c < a) : s_X10_in a b c h = some (0, h) := by
  unfold s_X10_in s_X10_in_L14 s_X10_in_L15
  by_cases h1 : a < b
  · rw [if_pos h1, zbs zbo0]
  · rw [if_neg h1, if_pos (hc.resolve_left h1), zbs zbo0]
theorem e_in1 {a b c : Int32} {h : zHp} (h1 : ¬ a < b) (h2 : ¬ c < a) : s_X10_in a b c h = some (1, h) := by
  unfold s_X10_in s_X10_in_L15
  rw [if_neg h1, if_neg h2, zbs zbo1]
theorem e_hX00 {a : Int32} {h : zHp} (hc : a < 0 ∨ h.1 6 6 ≤ a) : s_X0_has a h = some (0, h) := by
  unfold s_X0_has s_X0_has_L16 s_X0_has_L17
  by_cases h1 : a < 0
  · rw [if_pos h1, zbs zbo0]
  · rw [if_neg h1, if_pos (hc.resolve_left h1), zbs zbo0]
theorem e_hX01 {a : Int32} {h : zHp} (h1 : ¬ a < 0) (h2 : ¬ h.1 6 6 ≤ a) : s_X0_has a h = some (1, h) := by
  unfold s_X0_has s_X0_has_L17
  rw [if_neg h1, if_neg h2, zbs zbo1]
theorem e_hX40 {a : Int32} {h : zHp} (hc : a < 0 ∨ h.1 13 10 ≤ a) : s_X4_has a h = some (0, h) := by
  unfold s_X4_has s_X4_has_L16 s_X4_has_L17
  by_cases h1 : a < 0
  · rw [if_pos h1, zbs zbo0]
  · rw [if_neg h1, if_pos (hc.resolve_left h1), zbs zbo0]
theorem e_hX41 {a : Int32} {h : zHp} (h1 : ¬ a < 0) (h2 : ¬ h.1 13 10 ≤ a) : s_X4_has a h = some (1, h) := by
  unfold s_X4_has s_X4_has_L17
  rw [if_neg h1, if_neg h2, zbs zbo1]
theorem e_hX50 {a : Int32} {h : zHp} (hc : a < 0 ∨ h.1 24 8 ≤ a) : s_X5_has a h = some (0, h) := by
  unfold s_X5_has s_X5_has_L16 s_X5_has_L17
  by_cases h1 : a < 0
  · rw [if_pos h1, zbs zbo0]
  · rw [if_neg h1, if_pos (hc.resolve_left h1), zbs zbo0]
theorem e_hX51 {a : Int32} {h : zHp} (h1 : ¬ a < 0) (h2 : ¬ h.1 24 8 ≤ a) : s_X5_has a h = some (1, h) := by
  unfold s_X5_has s_X5_has_L17
  rw [if_neg h1, if_neg h2, zbs zbo1]
theorem e_hX10 {a : Int32} {h : zHp} (hc : a < 0 ∨ h.1 52 7 ≤ a) : s_X1_has a h = some (0, h) := by
  unfold s_X1_has s_X1_has_L16 s_X1_has_L17
  by_cases h1 : a < 0
  · rw [if_pos h1, zbs zbo0]
  · rw [if_neg h1, if_pos (hc.resolve_left h1), zbs zbo0]
theorem e_hX11 {a : Int32} {h : zHp} (h1 : ¬ a < 0) (h2 : ¬ h.1 52 7 ≤ a) : s_X1_has a h = some (1, h) := by
  unfold s_X1_has s_X1_has_L17
  rw [if_neg h1, if_neg h2, zbs zbo1]
theorem e_isCode0 {a : Int32} {h : zHp} (hc : a < 0 ∨ h.1 67 1 - 1 < a) : s_X10_isCode a h = some (0, h) := by
  unfold s_X10_isCode
  rw [zbs (e_in0 hc), zbs zbo0]
theorem e_isCode1 {a : Int32} {h : zHp} (h1 : ¬ a < 0) (h2 : ¬ h.1 67 1 - 1 < a) : s_X10_isCode a h = some (1, h) := by
  unfold s_X10_isCode
  rw [zbs (e_in1 h1 h2), zbs zbo1]
theorem e_isKitchen0 {a : Int32} {h : zHp} (hc : a < 0 ∨ h.1 67 8 - 1 < a) : s_X10_isKitchen a h = some (0, h) := by
  unfold s_X10_isKitchen
  rw [zbs (e_in0 hc), zbs zbo0]
theorem e_isKitchen1 {a : Int32} {h : zHp} (h1 : ¬ a < 0) (h2 : ¬ h.1 67 8 - 1 < a) : s_X10_isKitchen a h = some (1, h) := by
  unfold s_X10_isKitchen
  rw [zbs (e_in1 h1 h2), zbs zbo1]
theorem e_isLook0 {a : Int32} {h : zHp} (hc : a < 0 ∨ h.1 67 17 - 1 < a) : s_X10_isLook a h = some (0, h) := by
  unfold s_X10_isLook
  rw [zbs (e_in0 hc), zbs zbo0]
theorem e_isLook1 {a : Int32} {h : zHp} (h1 : ¬ a < 0) (h2 : ¬ h.1 67 17 - 1 < a) : s_X10_isLook a h = some (1, h) := by
  unfold s_X10_isLook
  rw [zbs (e_in1 h1 h2), zbs zbo1]
/-- a number against a count -/
theorem zix (x : Int32) {n : Nat} (hn : n < 2 ^ 31) : ((x < 0 ∨ nI n ≤ x) ∧ (x < 0 ∨ nI n - 1 < x)) ∨ ∃ j, j < n ∧ x = nI j ∧ ¬ x < 0 ∧ ¬ nI n ≤ x ∧ ¬ nI n - 1 < x := by
  have hm : (nI n - 1 : Int32).toInt = (n : Int) - 1 := by
    cases n with
    | zero => decide
    | succ m => rw [nI_pred, nI_toInt (by omega)]; omega
  rcases pk_ix x hn with h | h | ⟨j, hj, rfl⟩
  · exact Or.inl ⟨Or.inl h, Or.inl h⟩
  · refine Or.inl ⟨Or.inr h, Or.inr ?_⟩
    rw [Int32.lt_iff_toInt_lt, hm]
    rw [Int32.le_iff_toInt_le, nI_toInt hn] at h
    omega
  · refine Or.inr ⟨j, hj, rfl, nI_pos (by omega), nI_ge hj hn, ?_⟩
    rw [Int32.lt_iff_toInt_lt, hm, nI_toInt (by omega)]
    omega

/-! ===== the invariant without the refusals ===== -/
def zIv (h : zHp) : Prop := h.1 2 = h.1 81 ∧ (∀ i, h.1 2 i = 0 ∨ h.1 2 i = 1) ∧ h.1 3 = h.1 92 ∧ (∀ i, i < 4 → ∃ b, 1 ≤ b ∧ b ≤ 50 ∧ h.1 3 i = nI b) ∧ (∃ c, 1 ≤ c ∧ c ≤ 9 ∧ h.1 0 15 = nI c ∧ h.1 67 30 = nI c)
def zIW (h : zHp) (t nc nk nl nt np : Nat) : Prop := zId h t ∧ zIc h nc ∧ zIk h nk ∧ zIs h ∧ zIv h ∧ zIl h nl nk t ∧ zIt h nt ∧ zIp h np ∧ zIr h
theorem zIN.w {h : zHp} {t nc nk nl nt np : Nat} (hN : zIN h t nc nk nl nt np) : zIW h t nc nk nl nt np := by
  obtain ⟨h1, h2, h3, h4, h5, h6⟩ := hN
  exact ⟨h1, h2, h3, h4, h5.2, h6⟩
theorem zIW_r1 {h : zHp} {t nc nk nl nt np : Nat} (k : Nat) (hN : zIW h t nc nk nl nt np) : zIW (zr1 h k) t nc nk nl nt np := by
  obtain ⟨h1, h2, h3, h4, h5, h6, h7, h8, h9⟩ := hN
  exact ⟨h1, h2, h3, h4, h5, h6, h7, h8, h9⟩
theorem zIW_same {h h' : zHp} {t nc nk nl nt np : Nat} (hs : zSame h h') (hN : zIW h t nc nk nl nt np) : zIW h' t nc nk nl nt np := by
  obtain ⟨h1, h2, h3, h4, h5, h6, h7, h8, h9⟩ := hN
  have a : zIN (zgk h 1 (h.1 88)) t nc nk nl nt np := ⟨h1, h2, h3, h4, ⟨rfl, h5⟩, h6, h7, h8, h9⟩
  have s : zSame (zgk h 1 (h.1 88)) (zgk h' 1 (h'.1 88)) := by
    refine ⟨fun k hk => ?_, fun j j1 j2 => ?_⟩
    · by_cases e : k = 1
      · subst e; rw [zgk_at, zgk_at]; exact hs.1 88 (by decide)
      · rw [zgk_ne _ _ e, zgk_ne _ _ e]; exact hs.1 k hk
    · rw [zgk_ne _ _ (by decide), zgk_ne _ _ (by decide)]; exact hs.2 j j1 j2
  obtain ⟨g1, g2, g3, g4, g5, g6, g7, g8, g9⟩ := zIN_same s a
  exact ⟨g1, g2, g3, g4, g5.2, g6, g7, g8, g9⟩
theorem m_doubleW {h : zHp} {t nc nk nl nt np a b : Nat} (hN : zIW h t nc nk nl nt np) (ha : a < nl) (hb : b < nl) : s_X10_isDouble (nI a) (nI b) h = some ((if h.1 25 a = h.1 25 b ∧ h.1 27 a = h.1 27 b ∧ ¬ h.1 26 a = h.1 26 b ∧ h.1 29 a = 1501 ∧ h.1 29 b = 1501 then 1 else 0), h) := by
  obtain ⟨⟨d1, d2, d3⟩, -, -, -, -, hl, -⟩ := hN
  have hn := hl.1.2.2
  have za : ∀ (c : Nat), zri h c 80 (nI a) = some (h.1 c a) := fun c => zri_ok (by omega) (by decide)
  have zb : ∀ (c : Nat), zri h c 80 (nI b) = some (h.1 c b) := fun c => zri_ok (by omega) (by decide)
  have e82 : ∀ j, h.1 82 j = h.1 25 j := fun j => congrFun hl.2.1.1.symm j
  have e83 : ∀ j, h.1 83 j = h.1 26 j := fun j => congrFun hl.2.1.2.1.symm j
  have e84 : ∀ j, h.1 84 j = h.1 27 j := fun j => congrFun hl.2.1.2.2.1.symm j
  have key : ∀ i, i < nl → (h.1 28 i ≤ nI t ∧ nI t < h.1 29 i ↔ h.1 29 i = 1501) := fun i hi => by
    obtain ⟨-, -, -, ⟨kk, k1, k2⟩, p5⟩ := hl.2.2.1 i hi
    rcases p5 with ⟨b1, b2⟩ | ⟨b, b0, b1, b2⟩
    · rw [b1, k2]; exact ⟨fun _ => rfl, fun _ => ⟨nI_le k1 (by omega), ztlt d3⟩⟩
    · rw [b1]
      refine ⟨fun z => absurd z.2 (nI_nlt b0 (by omega)), fun z => absurd z (z1501 (by omega))⟩
  have ta : s_X10_countsBy (nI a) (nI t) h = some (if h.1 29 a = 1501 then 1 else 0, h) := by
    rw [m_counts hl ha d3 (ztlt d3)]; simp only [key a ha]
  have tb : s_X10_countsBy (nI b) (nI t) h = some (if h.1 29 b = 1501 then 1 else 0, h) := by
    rw [m_counts hl hb d3 (ztlt d3)]; simp only [key b hb]
  simp only [s_X10_isDouble, s_X10_isDouble_L73, s_X10_isDouble_L74, za, zb, e82, e83, e84, Option.bind_some, d2, ta, tb, zbo0, zbo1]
  by_cases c1 : h.1 25 a = h.1 25 b
  · by_cases c2 : h.1 27 a = h.1 27 b
    · by_cases c3 : h.1 26 a = h.1 26 b
      · simp only [c1, c2, c3, reduceIte, not_true_eq_false, false_and, and_false]
      · by_cases c4 : h.1 29 a = 1501
        · by_cases c5 : h.1 29 b = 1501
          · simp only [c1, c2, c3, c4, c5, reduceIte, not_false_eq_true, and_self, z10]
          · simp only [c1, c2, c3, c4, c5, reduceIte, z10, and_false]
        · simp only [c1, c2, c3, c4, reduceIte, and_false, false_and]
    · simp only [c1, c2, reduceIte, and_false, false_and]
  · simp only [c1, reduceIte, false_and]

/-! ===== habit, evened, others: the calls ===== -/
theorem zd_same {h h' : zHp} (hs : zSame h h') (a b : Nat) : zd h' a b = zd h a b := by
  unfold zd
  rw [hs.1 25 (by decide), hs.1 26 (by decide), hs.1 27 (by decide), hs.1 29 (by decide)]
theorem zJm_same {h h' : zHp} (hs : zSame h h') (nl i k : Nat) : zJm h' nl i k = zJm h nl i k := by
  unfold zJm
  congr 1
  funext a b
  unfold zfJ zin
  rw [zd_same hs, hs.1 26 (by decide)]
theorem zDm_same {h h' : zHp} (hs : zSame h h') (nl i : Nat) : zDm h' nl i = zDm h nl i := by
  unfold zDm
  congr 1
  funext a b
  unfold zfD zin
  rw [zd_same hs, hs.1 26 (by decide)]
theorem zAm_same {h h' : zHp} (hs : zSame h h') (nc nl i : Nat) : zAm h' nc nl i = zAm h nc nl i := by
  unfold zAm
  congr 1
  funext a b
  unfold zfA zin
  rw [zd_same hs, hs.1 26 (by decide), zscN_same hs, zscN_same hs]
theorem zAd_same {h h' : zHp} (hs : zSame h h') (nl : Nat) : zAd h' nl = zAd h nl := by
  funext i k
  unfold zAd
  rw [zJm_same hs]
theorem zroot_same {h h' : zHp} (hs : zSame h h') (nl i : Nat) : zroot h' nl i = zroot h nl i := by
  unfold zroot
  rw [zAd_same hs]
theorem zMe_same {h h' : zHp} (hs : zSame h h') (nl : Nat) : zMe h' nl = zMe h nl := by
  funext r c
  unfold zMe
  rw [zroot_same hs, zDm_same hs, zJm_same hs]
theorem zNe_same {h h' : zHp} (hs : zSame h h') (nc nl i : Nat) : zNe h' nc nl i = zNe h nc nl i := by
  funext r c
  unfold zNe zYe
  rw [zroot_same hs, zAm_same hs, zMe_same hs]
theorem zTop_same {h h' : zHp} (hs : zSame h h') (nc nl i : Nat) : zTop h' nc nl i = zTop h nc nl i := by
  unfold zTop
  rw [zroot_same hs, zMe_same hs, zNe_same hs]
theorem zBel_same {h h' : zHp} (hs : zSame h h') (nc nl i : Nat) : zBel h' nc nl i = zBel h nc nl i := by
  unfold zBel
  rw [zroot_same hs, zMe_same hs, zNe_same hs]
theorem zjn_same {h h' : zHp} (hs : zSame h h') (nl i : Nat) : ∀ n, zjn h' nl i n = zjn h nl i n
  | 0 => rfl
  | n + 1 => by rw [zjn, zjn, zjn_same hs nl i n, zAd_same hs]
theorem op_habit (a1 a2 : Int32) {h : zHp} (hI : zI h) : zopL (s_X9_habit a1 a2) (s_X10_habit a1 a2) h := by
  have hI0 := hI
  obtain ⟨t, nc, nk, nl, nt, np, hN⟩ := hI
  rcases zix a1 (n := 5) (by decide) with ⟨hc, hc'⟩ | ⟨i, hi, rfl, i1, i2, i3⟩
  · refine zopL_r1 hI0 ?_ ?_
    · simp only [s_X9_habit, e_wi0 (b := 5) hc, Option.bind_some, reduceIte, zbq]
    · simp only [s_X10_habit, e_in0 (b := 0) (c := 4) hc', Option.bind_some, reduceIte, zbq]
  have wa : ∀ h', s_X9_isWithin (nI i) 5 h' = some (1, h') := fun h' => e_wi1 i1 i2
  have va : ∀ h', s_X10_in (nI i) 0 4 h' = some (1, h') := fun h' => e_in1 i1 i3
  by_cases c1 : a2 < 0
  · refine zopL_r2 hI0 ?_ ?_
    · simp only [s_X9_habit, s_X9_habit_L23, wa, Option.bind_some, z10, c1, reduceIte, zbq]
    · simp only [s_X10_habit, va, e_in0 (Or.inl c1), Option.bind_some, z10, reduceIte, zbq]
  by_cases c2 : ¬ a2 ≤ 1
  · refine zopL_r2 hI0 ?_ ?_
    · simp only [s_X9_habit, s_X9_habit_L23, wa, Option.bind_some, z10, c1, c2, reduceIte, zbq]
    · simp only [s_X10_habit, va, e_in0 (Or.inr (znle.mp c2)), Option.bind_some, z10, reduceIte, zbq]
  have c2 := Decidable.not_not.mp c2
  have v3 : ∀ h' : zHp, s_X10_in a2 0 1 h' = some (1, h') := fun h' => e_in1 c1 (znlt.mpr c2)
  obtain ⟨h1, q1, q2⟩ := e_learn hN.w
  have hL := q2
  obtain ⟨s1, -, -, B, hB⟩ := q2
  obtain ⟨b1, b2, b3⟩ := hB i hi
  rw [← zjn_iff] at b3
  cases cj : zjn h nl i 5
  · have B0 := b3.mpr cj
    have w6 : s_X3_isInDouble (nI i) h1 = some (0, h1) := by
      unfold s_X3_isInDouble s_X3_isInDouble_L14
      rw [zbs (zriA hi (by decide) h1 50), b2, B0, if_pos nI_0, zbs zbo0]
    have s2 : zSame (zr1 h 3) (zr1 h1 3) := by
      refine ⟨fun k hk => ?_, fun j j1 j2 => ?_⟩
      · show (zwi h1 1 3 (h1.1 1 3 + 1)).1 k = (zwi h 1 3 (h.1 1 3 + 1)).1 k
        by_cases e : k = 1
        · subst e; rw [zwi_self, zwi_self, s1.1 1 (by decide)]
        · rw [zwi_ne k e, zwi_ne k e]; exact s1.1 k hk
      · show (zwi h1 1 3 (h1.1 1 3 + 1)).1 67 j = (zwi h 1 3 (h.1 1 3 + 1)).1 67 j
        rw [zwi_ne 67 (by decide), zwi_ne 67 (by decide)]; exact s1.2 j j1 j2
    obtain ⟨h2, r1, r2⟩ : ∃ h2 : zHp, (s_X10_habit (nI i) a2 (zr1 h1 3) = some (4000000000000000003, zr2 h2 3)) ∧ zSame (zr1 h1 3) h2 := by
      have hN2 : zIW (zr1 h1 3) t nc nk nl nt np := zIW_r1 3 (zIW_same s1 hN.w)
      obtain ⟨h2, f1, f2, f3, f4, f5⟩ := m_habit hN2 hi
      have f6 : s_X10_isJoined (nI i) h2 = some (0, h2) := by
        have e : zjn (zr1 h1 3) nl i 5 = false := by
          rw [← cj, ← zjn_same s1]
          rfl
        rw [m_joined hN2 f3.1 hi, e]
        rfl
      refine ⟨h2, ?_, f2⟩
      simp only [s_X10_habit, va, v3, Option.bind_some, z10, reduceIte, f1, f6, e_mfl3]
    refine ⟨(4000000000000000003, zr1 h1 3), (4000000000000000003, zr2 h2 3), ?_, r1, rfl, zI_ref2 3 (s2.tr r2) hI0⟩
    simp only [s_X9_habit, wa, Option.bind_some, z10, c1, c2, reduceIte, q1, w6, e_rfl3]
  · have B0 : ¬ nI (B i) = 0 := fun z => by
      have : B i = 0 := (nI_eq (b := 0) (by omega) (by decide)).mp (z.trans nI_0.symm)
      rw [b3.mp this] at cj
      cases cj
    have w6 : s_X3_isInDouble (nI i) h1 = some (1, h1) := by
      unfold s_X3_isInDouble s_X3_isInDouble_L14
      rw [zbs (zriA hi (by decide) h1 50), b2, if_neg B0, zbs zbo1]
    obtain ⟨h2, r1, r2, r3, r4, r5⟩ := e_habit hN.w hL hi
    have s2 : zSame h h2 := s1.tr ⟨fun k _ => by rw [r2], fun j _ _ => by rw [r2]⟩
    have hN2 := zIW_same s2 hN.w
    obtain ⟨h3, f1, f2, f3, f4, f5⟩ := m_habit hN2 hi
    have f6 : s_X10_isJoined (nI i) h3 = some (1, h3) := by
      rw [m_joined hN2 f3.1 hi, zjn_same s2, cj]; rfl
    rw [zTop_same s2] at f4
    rw [zBel_same s2] at f5
    by_cases c5 : a2 = 0
    · refine zopL_ok (r := h2.2 51 0) (h1 := h2) (h2 := h3) ?_ ?_ (zI_same (s2.tr f2) hI0)
      · simp only [s_X9_habit, wa, Option.bind_some, z10, c1, c2, reduceIte, q1, w6, r1, s_X2_piece_51, s_X2_piece_51_L15, if_pos c5]
      · simp only [s_X10_habit, s_X10_habit_L66, va, v3, Option.bind_some, z10, reduceIte, f1, f6, if_pos c5]
        rw [f4, r4]
    · refine zopL_ok (r := h2.2 51 1) (h1 := h2) (h2 := h3) ?_ ?_ (zI_same (s2.tr f2) hI0)
      · simp only [s_X9_habit, wa, Option.bind_some, z10, c1, c2, reduceIte, q1, w6, r1, s_X2_piece_51, s_X2_piece_51_L15, if_neg c5]
      · simp only [s_X10_habit, s_X10_habit_L66, va, v3, Option.bind_some, z10, reduceIte, f1, f6, if_neg c5]
        rw [f5, r5]
/-! evened -/
def zEa (h : zHp) (nc nl l : Nat) : Int := (zscN h nc l : Int) * zBel h nc nl (zin h l) - zTop h nc nl (zin h l)
def zEt (h : zHp) (nc nl l : Nat) : Int := (zEa h nc nl l).tdiv (Int.gcd (zEa h nc nl l) (zBel h nc nl (zin h l)) : Nat)
def zEb (h : zHp) (nc nl l : Nat) : Int := (zBel h nc nl (zin h l)).tdiv (Int.gcd (zEa h nc nl l) (zBel h nc nl (zin h l)) : Nat)
theorem zEa_same {h h' : zHp} (hs : zSame h h') (nc nl l : Nat) : zEa h' nc nl l = zEa h nc nl l := by
  unfold zEa zin
  rw [hs.1 26 (by decide), zscN_same hs, zTop_same hs, zBel_same hs]
theorem zEt_same {h h' : zHp} (hs : zSame h h') (nc nl l : Nat) : zEt h' nc nl l = zEt h nc nl l := by
  unfold zEt
  rw [zEa_same hs, zBel_same hs]
  unfold zin
  rw [hs.1 26 (by decide)]
theorem zEb_same {h h' : zHp} (hs : zSame h h') (nc nl l : Nat) : zEb h' nc nl l = zEb h nc nl l := by
  unfold zEb
  rw [zEa_same hs, zBel_same hs]
  unfold zin
  rw [hs.1 26 (by decide)]
theorem zEa_B {h : zHp} {t nc nk nl nt np : Nat} (hN : zIW h t nc nk nl nt np) {l : Nat} (hl : l < nl) : zB (zEa h nc nl l) := by
  have i5 := (zin_ok hN.2.2.2.2.2.1 hl).1
  have a := zTop_bd hN i5
  have b := zBel_bd hN (zin h l)
  have c : ((zscN h nc l : Nat) : Int).natAbs ≤ 1000 := by
    have : zscN h nc l ≤ 1000 := zScore_le hN.2.1
    omega
  have d := zna_mul c b
  unfold zEa
  exact ⟨by omega, by omega⟩
theorem zLn_keep {h h1 h2 : zHp} {nc nl : Nat} (hL : zLn h nc nl h1) (hs : zSame h h2) (e48 : h2.2 48 = h1.2 48) (e49 : h2.2 49 = h1.2 49) (e50 : h2.1 50 = h1.1 50) : zLn h nc nl h2 := by
  obtain ⟨-, a, b, c⟩ := hL
  unfold zLn
  rw [e48, e49, e50]
  exact ⟨hs, a, b, c⟩
theorem e_even {h h1 : zHp} {t nc nk nl nt np : Nat} (hN : zIW h t nc nk nl nt np) (hL : zLn h nc nl h1) {l : Nat} (hl : l < nl) : ∃ h2 : zHp, s_X9_evenScore (nI l) h1 = some h2 ∧ zLn h nc nl h2 ∧ h2.2 66 0 = lI (zEt h nc nl l) ∧ h2.2 66 1 = lI (zEb h nc nl l) := by
  have hs := hL.1
  have n80 := hN.2.2.2.2.2.1.1.2.2
  obtain ⟨i5, ei⟩ := zin_ok hN.2.2.2.2.2.1 hl
  obtain ⟨h2, q1, q2, q3, q4, q5⟩ := e_habit hN hL i5
  have s2 : zSame h h2 := hs.tr ⟨fun k _ => by rw [q2], fun j _ _ => by rw [q2]⟩
  obtain ⟨F, r1⟩ := e_own (zIW_same s2 hN) hl
  rw [zscN_same s2] at r1
  have sc : zscN h nc l ≤ 1000 := zScore_le hN.2.1
  have e26 : h1.1 26 l = nI (zin h l) := by rw [hs.1 26 (by decide)]; exact ei
  have bB := zBna (zBel_bd hN (zin h l)) (by decide)
  have put := e_put_66 (h := zgk h2 31 F) (zEa_B hN hl) bB (zBel_pos hN (zin h l))
  refine ⟨_, ?_, zLn_keep hL (h2 := zwl (zwl (zwl (zwl (zgk h2 31 F) 66 0 0) 66 1 1) 66 0 (lI (zEt h nc nl l))) 66 1 (lI (zEb h nc nl l))) ?_ ?_ ?_ ?_, ?_, ?_⟩
  · unfold s_X9_evenScore s_X5_inspectorOf
    rw [zriA (show l < 80 by omega) (by decide), e26]
    simp only [Option.bind_some]
    rw [q1]
    simp only [Option.bind_some, s_X2_piece_51, s_X2_piece_51_L15, z10, reduceIte]
    rw [r1]
    simp only [Option.bind_some]
    rw [show (zgk h2 31 F).2 51 0 = lI (zTop h nc nl (zin h l)) from q4, q5, lI_nI (by omega), lI_mul, lI_sub]
    exact (zbs put).trans rfl
  · exact s2.tr (zgk_same h2 F (by decide) (by decide))
  · rw [zwl3 48 (by decide)]; exact q3 48 (by decide)
  · rw [zwl3 49 (by decide)]; exact q3 49 (by decide)
  · show (zgk h2 31 F).1 50 = h1.1 50
    rw [zgk_ne _ _ (by decide), q2]
  · exact zwl2.1
  · exact zwl2.2
theorem m_even {h : zHp} {t nc nk nl nt np : Nat} (hN : zIW h t nc nk nl nt np) {l : Nat} (hl : l < nl) : ∃ h2 : zHp, s_X10_findEvened (nI l) h = some h2 ∧ zSame h h2 ∧ h2.2 67 45 = lI (zEt h nc nl l) ∧ h2.2 67 46 = lI (zEb h nc nl l) := by
  have hh := hN.2.2.2.2.2.1
  have n80 := hh.1.2.2
  obtain ⟨i5, ei⟩ := zin_ok hh hl
  obtain ⟨h2, q1, q2, q3, q4, q5⟩ := m_habit hN i5
  obtain ⟨F, r1⟩ := m_own (zIW_same q2 hN) hl
  rw [zscN_same q2] at r1
  have sc : zscN h nc l ≤ 1000 := zScore_le hN.2.1
  have e83 : h.1 83 l = nI (zin h l) := by rw [← hh.2.1.2.1]; exact ei
  have e84 : h2.1 84 l = h2.1 27 l := by
    rw [q2.1 84 (by decide), q2.1 27 (by decide), ← hh.2.1.2.2.1]
  have bB := zBna (zBel_bd hN (zin h l)) (by decide)
  have bA := zEa_B hN hl
  have b0 : zBel h nc nl (zin h l) ≠ 0 := by have := zBel_pos hN (zin h l); omega
  obtain ⟨gp, gB⟩ := zgcdB (a := zEa h nc nl l) bB b0
  have g0 : ((Int.gcd (zEa h nc nl l) (zBel h nc nl (zin h l)) : Nat) : Int) ≠ 0 := by omega
  refine ⟨zwl (zwl (zwl (zgk h2 89 F) 67 45 (lI (zEa h nc nl l))) 67 45 (lI (zEt h nc nl l))) 67 46 (lI (zEb h nc nl l)), ?_, q2.tr (zgk_same h2 F (by decide) (by decide)), ?_, ?_⟩
  · unfold s_X10_findEvened zpl
    rw [zriA (show l < 80 by omega) (by decide), e83]
    simp only [Option.bind_some]
    rw [q1]
    simp only [Option.bind_some]
    rw [zriA (show l < 80 by omega) (by decide), e84]
    simp only [Option.bind_some]
    rw [r1]
    simp only [Option.bind_some]
    rw [show (zgk h2 89 F).2 67 45 = lI (zTop h nc nl (zin h l)) from q4, show (zgk h2 89 F).2 67 46 = lI (zBel h nc nl (zin h l)) from q5, lI_nI (by omega), lI_mul, lI_sub]
    have ea : (zscN h nc l : Int) * zBel h nc nl (zin h l) - zTop h nc nl (zin h l) = zEa h nc nl l := rfl
    rw [ea]
    have x45 : (zwl (zgk h2 89 F) 67 45 (lI (zEa h nc nl l))).2 67 45 = lI (zEa h nc nl l) := by rw [zwl_self, pk_uLs]
    have x46 : (zwl (zgk h2 89 F) 67 45 (lI (zEa h nc nl l))).2 67 46 = lI (zBel h nc nl (zin h l)) := by rw [zwl_self, pk_uLn (by decide)]; exact q5
    rw [x45, x46, m_gcd bA bB]
    simp only [Option.bind_some]
    rw [x45, zldivI bA gB g0]
    simp only [Option.bind_some]
    rw [show (zwl (zwl (zgk h2 89 F) 67 45 (lI (zEa h nc nl l))) 67 45 (lI ((zEa h nc nl l).tdiv (Int.gcd (zEa h nc nl l) (zBel h nc nl (zin h l)) : Nat)))).2 67 46 = lI (zBel h nc nl (zin h l)) from by rw [zwl_self, pk_uLn (by decide)]; exact x46, zldivI bB gB g0]
    rfl
  · rw [zwl_self, pk_uLn (by decide), zwl_self, pk_uLs]
  · rw [zwl_self, pk_uLs]
theorem op_evened (a1 a2 : Int32) {h : zHp} (hI : zI h) : zopL (s_X9_evened a1 a2) (s_X10_evened a1 a2) h := by
  have hI0 := hI
  obtain ⟨t, nc, nk, nl, nt, np, hN⟩ := hI
  have hh := hN.2.2.2.2.2.1
  have n80 := hh.1.2.2
  rcases zix a1 (n := nl) (by omega) with ⟨hc, hc'⟩ | ⟨l, hl, rfl, i1, i2, i3⟩
  · refine zopL_r1 hI0 ?_ ?_
    · have := e_hX50 (h := h) (a := a1) (by rw [hh.1.1]; exact hc)
      simp only [s_X9_evened, this, Option.bind_some, reduceIte, zbq]
    · have := e_isLook0 (h := zr1 h 1) (a := a1) (by rw [zm67, hh.1.2.1]; exact hc')
      simp only [s_X10_evened, this, Option.bind_some, reduceIte, zbq]
  have wa : ∀ h' : zHp, h'.1 24 8 = nI nl → s_X5_has (nI l) h' = some (1, h') := fun h' e => e_hX51 i1 (by rw [e]; exact i2)
  have va : ∀ h' : zHp, h'.1 67 17 = nI nl → s_X10_isLook (nI l) h' = some (1, h') := fun h' e => e_isLook1 i1 (by rw [e]; exact i3)
  by_cases c1 : a2 < 0
  · refine zopL_r2 hI0 ?_ ?_
    · simp only [s_X9_evened, s_X9_evened_L26, wa h hh.1.1, Option.bind_some, z10, c1, reduceIte, zbq]
    · simp only [s_X10_evened, va (zr1 h 2) (by rw [zm67]; exact hh.1.2.1), e_in0 (Or.inl c1), Option.bind_some, z10, reduceIte, zbq]
  by_cases c2 : ¬ a2 ≤ 1
  · refine zopL_r2 hI0 ?_ ?_
    · simp only [s_X9_evened, s_X9_evened_L26, wa h hh.1.1, Option.bind_some, z10, c1, c2, reduceIte, zbq]
    · simp only [s_X10_evened, va (zr1 h 2) (by rw [zm67]; exact hh.1.2.1), e_in0 (Or.inr (znle.mp c2)), Option.bind_some, z10, reduceIte, zbq]
  have c2 := Decidable.not_not.mp c2
  have v3 : ∀ h' : zHp, s_X10_in a2 0 1 h' = some (1, h') := fun h' => e_in1 c1 (znlt.mpr c2)
  obtain ⟨h1, q1, q2⟩ := e_learn hN.w
  obtain ⟨h2, r1, r2, r4, r5⟩ := e_even hN.w q2 hl
  have s2 := r2.1
  obtain ⟨h3, f1, f2, f4, f5⟩ := m_even (zIW_same s2 hN.w) hl
  rw [zEt_same s2] at f4
  rw [zEb_same s2] at f5
  have l2 : h2.1 67 17 = nI nl := by rw [s2.2 17 (by decide) (by decide)]; exact hh.1.2.1
  by_cases c5 : a2 = 0
  · refine zopL_ok (r := h2.2 66 0) (h1 := h2) (h2 := h3) ?_ ?_ (zI_same (s2.tr f2) hI0)
    · simp only [s_X9_evened, wa h hh.1.1, Option.bind_some, z10, c1, c2, reduceIte, q1, r1, s_X2_piece_66, s_X2_piece_66_L15, if_pos c5]
    · simp only [s_X10_evened, s_X10_evened_L50, va h2 l2, v3, Option.bind_some, z10, reduceIte, f1, if_pos c5]
      rw [f4, r4]
  · refine zopL_ok (r := h2.2 66 1) (h1 := h2) (h2 := h3) ?_ ?_ (zI_same (s2.tr f2) hI0)
    · simp only [s_X9_evened, wa h hh.1.1, Option.bind_some, z10, c1, c2, reduceIte, q1, r1, s_X2_piece_66, s_X2_piece_66_L15, if_neg c5]
    · simp only [s_X10_evened, s_X10_evened_L50, va h2 l2, v3, Option.bind_some, z10, reduceIte, f1, if_neg c5]
      rw [f5, r5]
/-! others -/
def zOt (h : zHp) (nc nl nt : Nat) (t : Int32) (i : Nat) : Nat := match zLa h nl (nI i) t t with
  | none => 0
  | some l => if zStar h nc nl nt (nI i) t t = 0 then 0 else if zStO h nt (h.1 27 l) (lI (zEt h nc nl l)) (lI (zEb h nc nl l)) = zStar h nc nl nt (nI i) t t then 0 else 1
def zOs (h : zHp) (nc nl nt : Nat) (t : Int32) : Nat → Nat
  | 0 => 0
  | i + 1 => zOs h nc nl nt t i + zOt h nc nl nt t i
theorem e_isOther {h h1 : zHp} {t nc nk nl nt np : Nat} (hN : zIN h t nc nk nl nt np) (hL : zLn h nc nl h1) {l : Nat} (hl : l < nl) : ∃ h2 : zHp, s_X9_isOtherWhenEvened (nI l) h1 = some (if zStO h nt (h.1 27 l) (nI (zScore h nc l (h.1 27 l))).toInt64 1 = 0 then 0 else if zStO h nt (h.1 27 l) (lI (zEt h nc nl l)) (lI (zEb h nc nl l)) = zStO h nt (h.1 27 l) (nI (zScore h nc l (h.1 27 l))).toInt64 1 then 0 else 1, h2) ∧ zLn h nc nl h2 := by
  have hs := hL.1
  have n80 := hN.2.2.2.2.2.1.1.2.2
  have hN1 := zIN_same hs hN
  obtain ⟨F, r1⟩ := e_own hN1.w hl
  rw [zscN_same hs] at r1
  have s1 : zSame h (zgk h1 31 F) := hs.tr (zgk_same h1 F (by decide) (by decide))
  have L1 : zLn h nc nl (zgk h1 31 F) := zLn_keep hL s1 rfl rfl (zgk_ne _ _ (by decide))
  have st1 := e_starOn (zIN_same s1 hN).2.2.2.2.2.2.1 (h.1 27 l) (nI (zscN h nc l)).toInt64 1
  rw [zStO_same s1] at st1
  obtain ⟨h2, q1, q2, q3, q4⟩ := e_even hN.w L1 hl
  have st2 := e_starOn (zIN_same q2.1 hN).2.2.2.2.2.2.1 (h.1 27 l) (lI (zEt h nc nl l)) (lI (zEb h nc nl l))
  rw [zStO_same q2.1] at st2
  refine ⟨h2, ?_, q2⟩
  unfold s_X9_isOtherWhenEvened s_X5_dayOf s_X9_isOtherWhenEvened_L69 s_X9_isOtherWhenEvened_L70
  rw [zriA (show l < 80 by omega) (by decide), hs.1 27 (by decide)]
  simp only [Option.bind_some]
  rw [r1]
  simp only [Option.bind_some]
  rw [st1]
  simp only [Option.bind_some]
  rw [q1]
  simp only [Option.bind_some]
  have es : zscN h nc l = zScore h nc l (h.1 27 l) := rfl
  rw [es]
  by_cases c1 : zStO h nt (h.1 27 l) (nI (zScore h nc l (h.1 27 l))).toInt64 1 = 0
  · rw [if_pos c1, if_pos c1, zbs zbo0]
  · rw [if_neg c1, if_neg c1]
    simp only [s_X2_piece_66, s_X2_piece_66_L15, z10, reduceIte, Option.bind_some, q3, q4]
    rw [st2]
    simp only [Option.bind_some]
    by_cases c2 : zStO h nt (h.1 27 l) (lI (zEt h nc nl l)) (lI (zEb h nc nl l)) = zStO h nt (h.1 27 l) (nI (zScore h nc l (h.1 27 l))).toInt64 1
    · rw [if_pos c2, if_pos c2.symm, zbs zbo0]
    · rw [if_neg c2, if_neg (fun z => c2 z.symm), zbs zbo1]
theorem e_others1 {h : zHp} {t nc nk nl nt np : Nat} (hN : zIN h t nc nk nl nt np) : ∀ m i f (h1 : zHp), i + m = nk → m < f → zLn h nc nl h1 → ∃ h2 : zHp, s_X9_others_L11 f (nI (zOs h nc nl nt (nI t) i)) (nI i) h1 = some (nI (zOs h nc nl nt (nI t) nk), h2) ∧ zSame h h2
  | 0, i, f + 1, h1, hm, hf, hL => by
    obtain rfl : i = nk := by omega
    obtain ⟨-, -, ⟨⟨k1, k2, k3⟩, -⟩, -⟩ := zIN_same hL.1 hN
    exact ⟨h1, by simp only [s_X9_others_L11, s_X4_size, Option.bind_some, k1, nI_le (Nat.le_refl i) (show i < 2 ^ 31 by omega), reduceIte], hL.1⟩
  | m + 1, i, f + 1, h1, hm, hf, hL => by
    have hN1 := zIN_same hL.1 hN
    obtain ⟨⟨d1, d2, d3⟩, -, ⟨⟨k1, k2, k3⟩, -⟩, -, -, hl1, -⟩ := id hN1
    have hi : i < nk := by omega
    have w1 := e_latest hl1 d3 (nI i) (nI t) (nI t)
    rw [zLa_same hL.1] at w1
    cases e : zLa h nl (nI i) (nI t) (nI t) with
    | none =>
      rw [e] at w1
      have z : zOs h nc nl nt (nI t) (i + 1) = zOs h nc nl nt (nI t) i := by rw [zOs]; unfold zOt; rw [e]; rfl
      obtain ⟨h3, r1, r2⟩ := e_others1 hN m (i + 1) f h1 (by omega) (by omega) hL
      refine ⟨h3, ?_, r2⟩
      rw [z] at r1
      simp only [s_X9_others_L11, s_X9_others_L54, s_X4_size, Option.bind_some, k1, nI_ge hi (show nk < 2 ^ 31 by omega), reduceIte, d1, w1, zoi, zm1lt, nI_1]
      exact r1
    | some l =>
      rw [e] at w1
      have hln : l < nl := (zlt_lt e).1
      have l80 := hN.2.2.2.2.2.1.1.2.2
      obtain ⟨h2, q1, q2⟩ := e_isOther hN hL hln
      obtain ⟨h3, r1, r2⟩ := e_others1 hN m (i + 1) f h2 (by omega) (by omega) q2
      have zs : zStar h nc nl nt (nI i) (nI t) (nI t) = zStO h nt (h.1 27 l) (nI (zScore h nc l (h.1 27 l))).toInt64 1 := by unfold zStar; rw [e]
      have z : zOs h nc nl nt (nI t) (i + 1) = zOs h nc nl nt (nI t) i + (if zStO h nt (h.1 27 l) (nI (zScore h nc l (h.1 27 l))).toInt64 1 = 0 then 0 else if zStO h nt (h.1 27 l) (lI (zEt h nc nl l)) (lI (zEb h nc nl l)) = zStO h nt (h.1 27 l) (nI (zScore h nc l (h.1 27 l))).toInt64 1 then 0 else 1) := by
        rw [zOs]; unfold zOt; rw [e, zs]
      refine ⟨h3, ?_, r2⟩
      rw [z] at r1
      simp only [s_X9_others_L11, s_X9_others_L54, s_X4_size, Option.bind_some, k1, nI_ge hi (show nk < 2 ^ 31 by omega), reduceIte, d1, w1, zoi, nI_pos (show l < 2 ^ 31 by omega), nI_1]
      rw [q1]
      simp only [Option.bind_some]
      by_cases c1 : zStO h nt (h.1 27 l) (nI (zScore h nc l (h.1 27 l))).toInt64 1 = 0
      · simp only [c1, reduceIte, Nat.add_zero] at r1 ⊢
        exact r1
      · by_cases c2 : zStO h nt (h.1 27 l) (lI (zEt h nc nl l)) (lI (zEb h nc nl l)) = zStO h nt (h.1 27 l) (nI (zScore h nc l (h.1 27 l))).toInt64 1
        · simp only [if_neg c1, if_pos c2, Nat.add_zero] at r1 ⊢
          simp only [reduceIte]
          exact r1
        · simp only [if_neg c1, if_neg c2] at r1 ⊢
          simp only [z10, reduceIte, nI_1]
          exact r1
theorem m_others1 {h : zHp} {t nc nk nl nt np : Nat} (hN : zIN h t nc nk nl nt np) : ∀ m i f (h1 : zHp), i + m = nk → m < f → zSame h h1 → ∃ h2 : zHp, s_X10_others_L4 f (nI (zOs h nc nl nt (nI t) i)) (nI i) h1 = some (nI (zOs h nc nl nt (nI t) nk), h2) ∧ zSame h h2
  | 0, i, f + 1, h1, hm, hf, hs => by
    obtain rfl : i = nk := by omega
    obtain ⟨-, -, ⟨⟨k1, k2, k3⟩, -⟩, -⟩ := zIN_same hs hN
    exact ⟨h1, by simp only [s_X10_others_L4, k2, nI_le (Nat.le_refl i) (show i < 2 ^ 31 by omega), reduceIte], hs⟩
  | m + 1, i, f + 1, h1, hm, hf, hs => by
    have hN1 := zIN_same hs hN
    obtain ⟨⟨d1, d2, d3⟩, -, ⟨⟨k1, k2, k3⟩, -⟩, -, -, hl1, ht1, -⟩ := id hN1
    have hi : i < nk := by omega
    have w1 := m_latest hl1 d3 (nI i) (nI t) (ztlt d3)
    rw [zLa_same hs] at w1
    obtain ⟨h2, q1, q2⟩ := m_starOf hN1 (nI i) (nI t) (ztlt d3)
    rw [zStar_same hs] at q1
    have s2 := hs.tr q2
    obtain ⟨s, s5, es⟩ := zStar_rng h nc nl nt (nI i) (nI t) (nI t)
    cases e : zLa h nl (nI i) (nI t) (nI t) with
    | none =>
      have z : zOs h nc nl nt (nI t) (i + 1) = zOs h nc nl nt (nI t) i := by rw [zOs]; unfold zOt; rw [e]; rfl
      have zs : zStar h nc nl nt (nI i) (nI t) (nI t) = 0 := by unfold zStar; rw [e]
      obtain ⟨h3, r1, r2⟩ := m_others1 hN m (i + 1) f h2 (by omega) (by omega) s2
      refine ⟨h3, ?_, r2⟩
      rw [z] at r1
      rw [zs] at q1
      simp only [s_X10_others_L4, s_X10_others_L82, k2, nI_ge hi (show nk < 2 ^ 31 by omega), reduceIte, d2, w1, Option.bind_some, q1, Int32.le_refl, nI_1]
      exact r1
    | some l =>
      rw [e] at w1
      have hln : l < nl := (zlt_lt e).1
      have l80 := hN.2.2.2.2.2.1.1.2.2
      by_cases c1 : zStar h nc nl nt (nI i) (nI t) (nI t) = 0
      · have z : zOs h nc nl nt (nI t) (i + 1) = zOs h nc nl nt (nI t) i := by rw [zOs]; unfold zOt; rw [e]; simp only [c1, reduceIte, Nat.add_zero]
        obtain ⟨h3, r1, r2⟩ := m_others1 hN m (i + 1) f h2 (by omega) (by omega) s2
        refine ⟨h3, ?_, r2⟩
        rw [z] at r1
        rw [c1] at q1
        simp only [s_X10_others_L4, s_X10_others_L82, k2, nI_ge hi (show nk < 2 ^ 31 by omega), reduceIte, d2, w1, Option.bind_some, q1, Int32.le_refl, nI_1]
        exact r1
      · have hpos : ¬ zStar h nc nl nt (nI i) (nI t) (nI t) ≤ 0 := by
          rw [es] at c1 ⊢
          intro w
          apply c1
          rw [← nI_0] at w ⊢
          rw [Int32.le_iff_toInt_le, nI_toInt (by omega), nI_toInt (by omega)] at w
          rw [show s = 0 from by omega]
        obtain ⟨h3, f1, f2, f4, f5⟩ := m_even (zIW_same s2 hN.w) hln
        rw [zEt_same s2] at f4
        rw [zEb_same s2] at f5
        have s3 := s2.tr f2
        have hN3 := zIN_same s3 hN
        have st := m_starBy hN3.2.2.2.2.2.2.1 (h.1 27 l) (lI (zEt h nc nl l)) (lI (zEb h nc nl l))
        rw [zStO_same s3] at st
        have e84 : h3.1 84 l = h.1 27 l := by
          rw [s3.1 84 (by decide), ← hN.2.2.2.2.2.1.2.1.2.2.1]
        obtain ⟨h4, r1, r2⟩ := m_others1 hN m (i + 1) f h3 (by omega) (by omega) s3
        have z : zOs h nc nl nt (nI t) (i + 1) = zOs h nc nl nt (nI t) i + (if zStO h nt (h.1 27 l) (lI (zEt h nc nl l)) (lI (zEb h nc nl l)) = zStar h nc nl nt (nI i) (nI t) (nI t) then 0 else 1) := by
          rw [zOs]; unfold zOt; rw [e]; simp only [if_neg c1]
        refine ⟨h4, ?_, r2⟩
        rw [z] at r1
        simp only [s_X10_others_L4, s_X10_others_L82, s_X10_others_L80, k2, nI_ge hi (show nk < 2 ^ 31 by omega), reduceIte, d2, w1, Option.bind_some]
        have d2' : (nI t : Int32) = h1.1 67 0 := d2.symm
        rw [q1]
        simp only [Option.bind_some, if_neg hpos, zoi]
        rw [f1]
        simp only [Option.bind_some]
        rw [zriA (show l < 80 by omega) (by decide), e84, f4, f5]
        simp only [Option.bind_some]
        rw [st]
        simp only [Option.bind_some, nI_1]
        by_cases c2 : zStO h nt (h.1 27 l) (lI (zEt h nc nl l)) (lI (zEb h nc nl l)) = zStar h nc nl nt (nI i) (nI t) (nI t)
        · simp only [if_pos c2, Nat.add_zero] at r1 ⊢
          rw [Int32.add_zero]
          exact r1
        · simp only [if_neg c2] at r1 ⊢
          exact r1
theorem op_others {h : zHp} (hI : zI h) : zop s_X9_others s_X10_others h := by
  have hI0 := hI
  obtain ⟨t, nc, nk, nl, nt, np, hN⟩ := hI
  have hk3 := hN.2.2.1.1.2.2
  obtain ⟨h0, l1, l2⟩ := e_learn hN.w
  obtain ⟨h1, q1, q2⟩ := e_others1 hN nk 0 zFU h0 (by omega) (zFU_gt (by omega)) l2
  obtain ⟨h2, q3, q4⟩ := m_others1 hN nk 0 zFU h1 (by omega) (zFU_gt (by omega)) q2
  rw [show zOs h nc nl nt (nI t) 0 = 0 from rfl, nI_0] at q1 q3
  refine zop_ok (r := nI (zOs h nc nl nt (nI t) nk)) (h1 := h1) (h2 := h2) ?_ ?_ (zI_same q4 hI0)
  · unfold s_X9_others
    rw [l1, zbs rfl, q1]
  · unfold s_X10_others
    exact q3

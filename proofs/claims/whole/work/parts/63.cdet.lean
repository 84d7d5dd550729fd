/-! ===== spreading, setting to zero, the determinant of the class ===== -/
theorem zbitI : ∀ m, m < 32 → ∀ w, w < 5 → (((nI m >>> (nI w &&& 31)) &&& (1 : Int32)) = 0 ↔ m.testBit w = false) := by decide +kernel
theorem zborI : ∀ a, a < 32 → ∀ b, b < 32 → nI a ||| nI b = nI (a ||| b) := by decide +kernel
theorem zlowI : ∀ m, m < 32 → ∀ r, r < 5 → ((nI m &&& (((1 : Int32) <<< (nI r &&& 31)) - (1 : Int32))) = 0 ↔ ∀ k, k < r → m.testBit k = false) := by decide +kernel
theorem z5le {s : Nat} (hs : s < 5) : ¬ (5 : Int32) ≤ nI s := nI_ge (b := 5) hs (by decide)
theorem z55 : (5 : Int32) ≤ nI 5 := by decide
theorem e_spread1 (k2 : Int32 → zHp → Option zHp) {N : Nat → Nat} (hN : ∀ i, i < 5 → N i < 32) {w : Nat} (hw : w < 5) : ∀ m i f (h : zHp), i + m = 5 → m < f → (∀ x, x < 5 → h.1 50 x = nI (if x < i then zsp w N x else N x)) → ∃ h2 : zHp, s_X3_spreadJoins_L9 k2 f (nI w) (nI i) h = k2 (nI (w + 1)) h2 ∧ (∀ c, c ≠ 50 → h2.1 c = h.1 c) ∧ h2.2 = h.2 ∧ ∀ x, x < 5 → h2.1 50 x = nI (zsp w N x)
  | 0, i, f + 1, h, hm, hf, hc => by
    obtain rfl : i = 5 := by omega
    refine ⟨h, ?_, fun _ _ => rfl, rfl, fun x hx => by rw [hc x hx, if_pos hx]⟩
    simp only [s_X3_spreadJoins_L9, z55, reduceIte, nI_1]
  | m + 1, i, f + 1, h, hm, hf, hc => by
    have hi : i < 5 := by omega
    have ci : h.1 50 i = nI (N i) := by rw [hc i hi, if_neg (by omega)]
    have cw : h.1 50 w = nI (N w) := by
      rw [hc w hw]
      split
      · rw [zsp_self]
      · rfl
    by_cases c : (N i).testBit w = true
    · have e1 : zsp w N i = N i ||| N w := by unfold zsp; rw [if_pos c]
      obtain ⟨h2, q1, q2, q3, q4⟩ := e_spread1 k2 hN hw m (i + 1) f (zwi h 50 i (nI (N i ||| N w))) (by omega) (by omega) (fun x hx => by
        rw [zwi_self]
        by_cases e : x = i
        · subst e; rw [pk_us, if_pos (by omega), e1]
        · rw [pk_un e, hc x hx]
          by_cases d : x < i
          · rw [if_pos d, if_pos (by omega)]
          · rw [if_neg d, if_neg (by omega)])
      refine ⟨h2, ?_, fun c hc2 => by rw [q2 c hc2, zwi_ne c hc2], q3, q4⟩
      have cb : ¬ ((nI (N i) >>> (nI w &&& 31)) &&& (1 : Int32)) = 0 := fun z => by
        rw [zbitI (N i) (hN i hi) w hw, c] at z; cases z
      simp only [s_X3_spreadJoins_L9, s_X3_spreadJoins_L42, z5le hi, reduceIte, zriA hi (by decide), zriA hw (by decide), ci, cw, Option.bind_some, cb, zborI (N i) (hN i hi) (N w) (hN w hw), zuiA hi (by decide), nI_1]
      exact q1
    · have c' : (N i).testBit w = false := by rw [Bool.not_eq_true] at c; exact c
      have e1 : zsp w N i = N i := by unfold zsp; rw [if_neg c]
      obtain ⟨h2, q1, q2, q3, q4⟩ := e_spread1 k2 hN hw m (i + 1) f h (by omega) (by omega) (fun x hx => by
        rw [hc x hx]
        by_cases e : x = i
        · subst e; rw [if_neg (by omega), if_pos (by omega), e1]
        · by_cases d : x < i
          · rw [if_pos d, if_pos (by omega)]
          · rw [if_neg d, if_neg (by omega)])
      refine ⟨h2, ?_, q2, q3, q4⟩
      have cb : ((nI (N i) >>> (nI w &&& 31)) &&& (1 : Int32)) = 0 := (zbitI (N i) (hN i hi) w hw).mpr c'
      simp only [s_X3_spreadJoins_L9, s_X3_spreadJoins_L42, z5le hi, reduceIte, zriA hi (by decide), ci, Option.bind_some, cb, nI_1]
      exact q1
theorem e_spread2 {M : Nat → Nat} (hM : ∀ i, i < 5 → M i < 32) : ∀ m w f (h : zHp), w + m = 5 → m < f → (∀ x, x < 5 → h.1 50 x = nI (zspA M w x)) → ∃ h2 : zHp, s_X3_spreadJoins_L2 f (nI w) h = some h2 ∧ (∀ c, c ≠ 50 → h2.1 c = h.1 c) ∧ h2.2 = h.2 ∧ ∀ x, x < 5 → h2.1 50 x = nI (zspA M 5 x)
  | 0, w, f + 1, h, hm, hf, hc => by
    obtain rfl : w = 5 := by omega
    refine ⟨h, ?_, fun _ _ => rfl, rfl, hc⟩
    simp only [s_X3_spreadJoins_L2, z55, reduceIte]
  | m + 1, w, f + 1, h, hm, hf, hc => by
    obtain ⟨h2, q1, q2, q3, q4⟩ := e_spread1 (s_X3_spreadJoins_L2 f) (N := zspA M w) (zspA_lt hM w (by omega)) (show w < 5 by omega) 5 0 zFU h (by omega) (zFU_gt (by decide)) (fun x hx => by rw [if_neg (by omega)]; exact hc x hx)
    obtain ⟨h3, r1, r2, r3, r4⟩ := e_spread2 hM m (w + 1) f h2 (by omega) (by omega) q4
    refine ⟨h3, ?_, fun c hc2 => by rw [r2 c hc2, q2 c hc2], by rw [r3, q3], r4⟩
    rw [nI_0] at q1
    simp only [s_X3_spreadJoins_L2, z5le (show w < 5 by omega), reduceIte]
    rw [q1, r1]
theorem e_zero1 {r : Nat} (hr : r < 5) : ∀ m c f (h : zHp), c + m = 5 → m < f → ∃ h2 : zHp, s_X3_setToZero_L2 f (nI r) (nI c) h = some h2 ∧ h2.1 = h.1 ∧ (∀ p, p ≠ 5 * r + r → (p < 5 * r + c ∨ 5 * r + 5 ≤ p) → h2.2 48 p = h.2 48 p) ∧ (∀ x, c ≤ x → x < 5 → x ≠ r → h2.2 48 (5 * r + x) = 0) ∧ h2.2 48 (5 * r + r) = 1 ∧ h2.2 49 r = 0 ∧ ∀ i, i ≠ r → h2.2 49 i = h.2 49 i
  | 0, c, f + 1, h, hm, hf => by
    obtain rfl : c = 5 := by omega
    refine ⟨zwl (zwl h 48 (5 * r + r) 1) 49 r 0, ?_, rfl, fun p p1 _ => ?_, fun x x1 x2 _ => by omega, ?_, ?_, fun i hi => ?_⟩
    · simp only [s_X3_setToZero_L2, z55, reduceIte, zix5, zuj_ok (show 5 * r + r < 25 by omega) (by decide), zuj_ok hr (by decide), Option.bind_some]
    · rw [zwl_ne 48 (by decide), zwl_self, pk_uLn p1]
    · rw [zwl_ne 48 (by decide), zwl_self, pk_uLs]
    · rw [zwl_self, pk_uLs]
    · rw [zwl_self, pk_uLn hi, zwl_ne 49 (by decide)]
  | m + 1, c, f + 1, h, hm, hf => by
    obtain ⟨h2, q1, q2, q3, q4, q5, q6, q7⟩ := e_zero1 hr m (c + 1) f (zwl h 48 (5 * r + c) 0) (by omega) (by omega)
    refine ⟨h2, ?_, by rw [q2]; rfl, fun p p1 p2 => ?_, fun x x1 x2 x3 => ?_, q5, q6, fun i hi => ?_⟩
    · simp only [s_X3_setToZero_L2, z5le (show c < 5 by omega), reduceIte, zix5, zuj_ok (show 5 * r + c < 25 by omega) (by decide), Option.bind_some, nI_1]
      exact q1
    · rw [q3 p p1 (by omega), zwl_self, pk_uLn (by omega)]
    · by_cases e : x = c
      · subst e
        rw [q3 (5 * r + x) (by omega) (by omega), zwl_self, pk_uLs]
      · exact q4 x (by omega) x2 x3
    · rw [q7 i hi, zwl_ne 49 (by decide)]
/-- who is joined to whom -/
def zAd (h : zHp) (nl i k : Nat) : Bool := decide (0 < zJm h nl i k)
def zroot (h : zHp) (nl i : Nat) : Bool := decide (zls (zAd h nl) 5 i = i)
def zMe (h : zHp) (nl i k : Nat) : Int := if zroot h nl i then (if i = k then 1 else 0) else if i = k then zDm h nl i else -(zJm h nl i k)
def zYe (h : zHp) (nc nl i : Nat) : Int := if zroot h nl i then 0 else zAm h nc nl i
theorem zJm_symm (h : zHp) (n i k : Nat) : zJm h n i k = zJm h n k i := by
  unfold zJm
  congr 1
  funext a b
  unfold zfJ
  rw [Int.add_comm]
theorem zAd_symm (h : zHp) (nl i k : Nat) : zAd h nl i k = zAd h nl k i := by unfold zAd; rw [zJm_symm]
theorem e_lowest {h : zHp} {m r : Nat} (hm : m < 32) (hr : r < 5) (e : h.1 50 r = nI m) : s_X3_isLowest (nI r) h = some (if ∃ k, k < r ∧ m.testBit k = true then 0 else 1, h) := by
  unfold s_X3_isLowest s_X3_isLowest_L20
  rw [zbs (zriA hr (by decide) h 50), e]
  by_cases c : ∀ k, k < r → m.testBit k = false
  · rw [if_pos ((zlowI m hm r hr).mpr c), zbs zbo1, if_neg]
    rintro ⟨k, k1, k2⟩
    rw [c k k1] at k2
    cases k2
  · rw [if_neg (fun z => c ((zlowI m hm r hr).mp z)), zbs zbo0, if_pos]
    apply Classical.byContradiction
    intro z
    apply c
    intro k hk
    cases e2 : m.testBit k
    · rfl
    · exact absurd ⟨k, hk, e2⟩ z
theorem e_learn4 {h : zHp} {t nc nk nl nt np : Nat} (hN : zIW h t nc nk nl nt np) {B : Nat → Nat} (hB : ∀ i, i < 5 → B i < 32) (hlow : ∀ r, r < 5 → ((∃ k, k < r ∧ (B r).testBit k = true) ↔ zroot h nl r = false)) : ∀ m r f (h1 : zHp), r + m = 5 → m < f → (∀ i, i < 5 → h1.1 50 i = nI (B i)) → (∀ i k, i < 5 → k < 5 → h1.2 48 (5 * i + k) = lI (if i < r then zMe h nl i k else if i = k then zDm h nl i else -(zJm h nl i k))) → (∀ i, i < 5 → h1.2 49 i = lI (if i < r then zYe h nc nl i else zAm h nc nl i)) → ∃ h2 : zHp, s_X3_learn_L124 f (nI r) h1 = some h2 ∧ h2.1 = h1.1 ∧ (∀ i k, i < 5 → k < 5 → h2.2 48 (5 * i + k) = lI (zMe h nl i k)) ∧ (∀ i, i < 5 → h2.2 49 i = lI (zYe h nc nl i))
  | 0, r, f + 1, h1, hm, hf, h50, h48, h49 => by
    obtain rfl : r = 5 := by omega
    refine ⟨h1, ?_, rfl, fun i k hi hk => by rw [h48 i k hi hk, if_pos hi], fun i hi => by rw [h49 i hi, if_pos hi]⟩
    simp only [s_X3_learn_L124, z55, reduceIte]
  | m + 1, r, f + 1, h1, hm, hf, h50, h48, h49 => by
    have hr : r < 5 := by omega
    have el := e_lowest (hB r hr) hr (h50 r hr)
    cases c : zroot h nl r
    · rw [if_pos ((hlow r hr).mpr c)] at el
      obtain ⟨h2, q1, q2, q3, q4⟩ := e_learn4 hN hB hlow m (r + 1) f h1 (by omega) (by omega) h50 (fun i k hi hk => by
        rw [h48 i k hi hk]
        by_cases e : i = r
        · subst e
          rw [if_neg (show ¬ i < i by omega), if_pos (show i < i + 1 by omega)]
          unfold zMe
          rw [c]
          simp only [Bool.false_eq_true, reduceIte]
        · by_cases d : i < r
          · rw [if_pos d, if_pos (show i < r + 1 by omega)]
          · rw [if_neg d, if_neg (show ¬ i < r + 1 by omega)]) (fun i hi => by
        rw [h49 i hi]
        by_cases e : i = r
        · subst e
          rw [if_neg (show ¬ i < i by omega), if_pos (show i < i + 1 by omega)]
          unfold zYe
          rw [c]
          simp only [Bool.false_eq_true, reduceIte]
        · by_cases d : i < r
          · rw [if_pos d, if_pos (show i < r + 1 by omega)]
          · rw [if_neg d, if_neg (show ¬ i < r + 1 by omega)])
      refine ⟨h2, ?_, q2, q3, q4⟩
      simp only [s_X3_learn_L124, s_X3_learn_L142, z5le hr, reduceIte, el, Option.bind_some, nI_1]
      exact q1
    · rw [if_neg (fun z => by rw [(hlow r hr).mp z] at c; cases c)] at el
      obtain ⟨g, g1, g2, g3, g4, g5, g6, g7⟩ := e_zero1 hr 5 0 zFU h1 (by omega) (zFU_gt (by decide))
      rw [nI_0] at g1
      obtain ⟨h2, q1, q2, q3, q4⟩ := e_learn4 hN hB hlow m (r + 1) f g (by omega) (by omega) (by rw [g2]; exact h50) (fun i k hi hk => by
        by_cases e : i = r
        · subst e
          rw [if_pos (by omega)]
          unfold zMe
          rw [c]
          simp only [reduceIte]
          by_cases e2 : k = i
          · subst e2; rw [if_pos rfl, g5, lI_1]
          · rw [if_neg (fun z => e2 z.symm), g4 k (by omega) hk e2, lI_0]
        · rw [g3 (5 * i + k) (by omega) (by omega), h48 i k hi hk]
          by_cases d : i < r
          · rw [if_pos d, if_pos (show i < r + 1 by omega)]
          · rw [if_neg d, if_neg (show ¬ i < r + 1 by omega)]) (fun i hi => by
        by_cases e : i = r
        · subst e
          rw [if_pos (by omega), g6]
          unfold zYe
          rw [c]
          simp only [reduceIte]
          exact lI_0.symm
        · rw [g7 i e, h49 i hi]
          by_cases d : i < r
          · rw [if_pos d, if_pos (show i < r + 1 by omega)]
          · rw [if_neg d, if_neg (show ¬ i < r + 1 by omega)])
      refine ⟨h2, ?_, by rw [q2, g2], q3, q4⟩
      simp only [s_X3_learn_L124, s_X3_learn_L142, z5le hr, reduceIte, el, Option.bind_some, z10, s_X3_setToZero, g1, nI_1]
      exact q1
/-- what learn leaves behind -/
def zLn (h : zHp) (nc nl : Nat) (h' : zHp) : Prop := zSame h h' ∧ (∀ i k, i < 5 → k < 5 → h'.2 48 (5 * i + k) = lI (zMe h nl i k)) ∧ (∀ i, i < 5 → h'.2 49 i = lI (zYe h nc nl i)) ∧ ∃ B : Nat → Nat, (∀ i, i < 5 → B i < 32 ∧ h'.1 50 i = nI (B i) ∧ (B i = 0 ↔ ∀ k, k < 5 → zAd h nl i k = false))
theorem e_learn {h : zHp} {t nc nk nl nt np : Nat} (hN : zIW h t nc nk nl nt np) : ∃ h' : zHp, s_X3_learn h = some h' ∧ zLn h nc nl h' := by
  obtain ⟨h2, q1, q2, c1, c2, c3, c4⟩ := e_learnA hN
  have mk : ∀ i, i < 5 → (h2.1 50 i).toNatClampNeg < 32 ∧ h2.1 50 i = nI (h2.1 50 i).toNatClampNeg ∧ ∀ k, k < 5 → (h2.1 50 i).toNatClampNeg.testBit k = zAd h nl i k := fun i hi => by
    obtain ⟨m, m1, m2, m3⟩ := c4 i hi
    rw [m2, nI_clamp (by omega)]
    exact ⟨m1, rfl, m3⟩
  generalize hM : (fun i => (h2.1 50 i).toNatClampNeg) = M
  have mk' : ∀ i, i < 5 → M i < 32 ∧ h2.1 50 i = nI (M i) ∧ ∀ k, k < 5 → (M i).testBit k = zAd h nl i k := fun i hi => by rw [← hM]; exact mk i hi
  have hM32 : ∀ i, i < 5 → M i < 32 := fun i hi => (mk' i hi).1
  have sy : ∀ i j, i < 5 → j < 5 → zAd h nl i j = zAd h nl j i := fun i j _ _ => zAd_symm h nl i j
  obtain ⟨h3, r1, r2, r3, r4⟩ := e_spread2 hM32 5 0 zFU h2 (by omega) (zFU_gt (by decide)) (fun x hx => (mk' x hx).2.1)
  have hB := zspA_lt hM32 5 (Nat.le_refl 5)
  obtain ⟨h4, s1, s2, s3, s4⟩ := e_learn4 hN (B := zspA M 5) hB (fun r hr => by
    rw [zsp_low sy hM32 (fun i k hi hk => (mk' i hi).2.2 k hk) hr]
    unfold zroot
    rw [decide_eq_false_iff_not]) 5 0 zFU h3 (by omega) (zFU_gt (by decide)) r4 (fun i k hi hk => by
    rw [r3, if_neg (by omega)]
    by_cases e : i = k
    · subst e; rw [if_pos rfl]; exact c2 i hi
    · rw [if_neg e]; exact c1 i k hi hk e) (fun i hi => by rw [r3, if_neg (by omega)]; exact c3 i hi)
  rw [nI_0] at r1 s1
  refine ⟨h4, ?_, q2.tr (zSame2 (p := 50) (q := 50) (by decide) (by decide) (by decide) (by decide) (fun k k1 _ => by rw [s2, r2 k k1])), s3, s4, zspA M 5, fun i hi => ⟨hB i hi, by rw [s2]; exact r4 i hi, ?_⟩⟩
  · rw [q1]
    unfold s_X3_spreadJoins
    rw [r1, zbs rfl, s1]
  · rw [zsp_zero]
    constructor
    · intro z k hk
      rw [← (mk' i hi).2.2 k hk, z, Nat.zero_testBit]
    · intro z
      apply Classical.byContradiction
      intro w
      obtain ⟨k, hk⟩ := Nat.exists_testBit_of_ne_zero w
      by_cases e : k < 5
      · rw [(mk' i hi).2.2 k e, z k e] at hk; cases hk
      · have : (M i).testBit k = false := Nat.testBit_lt_two_pow (Nat.lt_of_lt_of_le (hM32 i hi) (Nat.pow_le_pow_right (n := 2) (by decide) (show 5 ≤ k by omega)))
        rw [this] at hk; cases hk
/-! the determinant -/
def dI (rc : Nat → Int) (e : Nat → Nat → Int) (row used : Nat) : Nat → Nat → Int → Int
  | 0, _, _ => 0
  | k + 1, col, sg => if used.testBit col = true then dI rc e row used k (col + 1) sg else sg * e row col * rc (used ||| 2 ^ col) + dI rc e row used k (col + 1) (-sg)
def dD (e : Nat → Nat → Int) : Nat → Nat → Nat → Int
  | 0, _, _ => 1
  | n + 1, row, used => dI (dD e n (row + 1)) e row used 5 0 1
set_option maxRecDepth 10000 in
theorem dD0 (e : Nat → Nat → Int) (h0 : e 0 0 = 1) (h1 : e 0 1 = 0) (h2 : e 0 2 = 0) (h3 : e 0 3 = 0) (h4 : e 0 4 = 0) : dD e 5 0 0 = dD e 4 1 1 := by
  simp [dD, dI, h0, h1, h2, h3, h4]
set_option maxRecDepth 10000 in
theorem dDz (e : Nat → Nat → Int) (h0 : e 0 0 = 0) (h1 : e 0 1 = 0) (h2 : e 0 2 = 0) (h3 : e 0 3 = 0) (h4 : e 0 4 = 0) : dD e 5 0 0 = 0 := by
  simp [dD, dI, h0, h1, h2, h3, h4]
set_option maxRecDepth 10000 in
theorem dD4 (e : Nat → Nat → Int) : dD e 4 1 1 = zD4 e := by
  simp [dD, dI, zD4, g4D, g3D, g2D, Nat.testBit, Nat.shiftRight_eq_div_pow]
  grind
theorem e_det1 {h : zHp} {e : Nat → Nat → Int} {a2 : Int32} {n row used : Nat} (hr : row < 5) (hu : used < 32) (he : ∀ c, c < 5 → (nI c = a2 → h.2 49 row = lI (e row c)) ∧ (¬ nI c = a2 → h.2 48 (5 * row + c) = lI (e row c))) (ih : ∀ u, u < 32 → s_X3_determinant n a2 (nI (row + 1)) (nI u) h = some (lI (dD e (4 - row) (row + 1) u), h)) : ∀ m col f acc sg, col + m = 5 → m < f → s_X3_determinant_L16 (s_X3_determinant n) f a2 (nI row) (nI used) (lI acc) (lI sg) (nI col) h = some (lI (acc + dI (dD e (4 - row) (row + 1)) e row used m col sg), h)
  | 0, col, f + 1, acc, sg, hm, hf => by
    obtain rfl : col = 5 := by omega
    simp only [s_X3_determinant_L16, z55, reduceIte, dI, Int.add_zero]
  | m + 1, col, f + 1, acc, sg, hm, hf => by
    have hc : col < 5 := by omega
    cases cb : used.testBit col
    · have ih2 := e_det1 hr hu he ih m (col + 1) f (acc + sg * e row col * dD e (4 - row) (row + 1) (used ||| 2 ^ col)) (-sg) (by omega) (by omega)
      have bt : ((nI used >>> (nI col &&& 31)) &&& (1 : Int32)) = 0 := (zbitI used hu col hc).mpr cb
      have key : ∀ k16, s_X3_determinant_L55 (s_X3_determinant n) k16 a2 (nI row) (nI used) (lI acc) (lI sg) (nI col) (lI (e row col)) h = k16 a2 (nI row) (nI used) (lI (acc + sg * e row col * dD e (4 - row) (row + 1) (used ||| 2 ^ col))) (lI (-sg)) (nI (col + 1)) h := fun k16 => by
        unfold s_X3_determinant_L55 s_X3_determinant_L91 s_X3_determinant_L96
        by_cases z : lI (e row col) = 0
        · rw [if_pos z, zbs rfl, nI_1, lI_neg]
          have : lI (acc + sg * e row col * dD e (4 - row) (row + 1) (used ||| 2 ^ col)) = lI acc := by
            rw [← lI_add, ← lI_mul, ← lI_mul, z, Int64.mul_zero, Int64.zero_mul, Int64.add_zero]
          rw [this]
        · rw [if_neg z, zbor1 used hu col hc, nI_1, ih _ (zbor1lt used hu col hc), zbs rfl]
          simp only [Option.bind_some, lI_mul, lI_add, lI_neg, nI_1]
      rw [show dI (dD e (4 - row) (row + 1)) e row used (m + 1) col sg = sg * e row col * dD e (4 - row) (row + 1) (used ||| 2 ^ col) + dI (dD e (4 - row) (row + 1)) e row used m (col + 1) (-sg) from by rw [dI, if_neg (by rw [cb]; exact Bool.false_ne_true)], ← Int.add_assoc, ← ih2]
      by_cases ca : nI col = a2
      · have q := (he col hc).1 ca
        rw [s_X3_determinant_L16, if_neg (z5le hc), if_pos bt, if_pos ca, zbs (zrj_ok hr (by decide)), q]
        exact key _
      · have q := (he col hc).2 ca
        simp only [s_X3_determinant_L16, z5le hc, reduceIte, bt, ca, zix5, zrj_ok (show 5 * row + col < 25 by omega) (by decide), q, Option.bind_some]
        exact key _
    · have ih2 := e_det1 hr hu he ih m (col + 1) f acc sg (by omega) (by omega)
      have bt : ¬ ((nI used >>> (nI col &&& 31)) &&& (1 : Int32)) = 0 := fun z => by
        rw [zbitI used hu col hc, cb] at z; cases z
      rw [show dI (dD e (4 - row) (row + 1)) e row used (m + 1) col sg = dI (dD e (4 - row) (row + 1)) e row used m (col + 1) sg from by rw [dI, if_pos cb], ← ih2]
      simp only [s_X3_determinant_L16, s_X3_determinant_L96, z5le hc, reduceIte, bt, nI_1]
theorem e_det2 {h : zHp} {e : Nat → Nat → Int} {a2 : Int32} (he : ∀ r c, r < 5 → c < 5 → (nI c = a2 → h.2 49 r = lI (e r c)) ∧ (¬ nI c = a2 → h.2 48 (5 * r + c) = lI (e r c))) : ∀ m row used, row + m = 5 → used < 32 → s_X3_determinant (m + 1) a2 (nI row) (nI used) h = some (lI (dD e m row used), h)
  | 0, row, used, hm, hu => by
    obtain rfl : row = 5 := by omega
    unfold s_X3_determinant
    rw [if_neg (by decide), dD, lI_1]
  | m + 1, row, used, hm, hu => by
    have hr : row < 5 := by omega
    have c5 : nI row < 5 := nI_lt (b := 5) hr (by decide)
    have em : 4 - row = m := by omega
    have q := e_det1 (n := m + 1) hr hu (fun c hc => he row c hr hc) (fun u hu2 => by rw [em]; exact e_det2 he m (row + 1) u (by omega) hu2) 5 0 zFU 0 1 (by omega) (zFU_gt (by decide))
    rw [Int.zero_add, em, lI_0, lI_1, nI_0] at q
    rw [s_X3_determinant, if_pos c5]
    exact q

/-! ===== labels and determinants of the reference ===== -/
theorem m_lab1 (k182 : Int32 → zHp → Option zHp) (a1 : Int32) {A : Nat → Nat → Bool} {s : Nat → Nat} (hs4 : ∀ j, j < 5 → s j < 5) : ∀ m k f (h : zHp), k + m = 25 → m < f → (∀ p, p < 25 → (h.2 100 p ≤ 0 ↔ A (p / 5) (p % 5) = false)) → (∀ j, j < 5 → h.1 102 j = nI (zlr A k s j) ∧ zlr A k s j < 5) → ∃ h2 : zHp, s_X10_findDoubles_L189 k182 f a1 (nI k) h = k182 (a1 + 1) h2 ∧ (∀ c, c ≠ 102 → h2.1 c = h.1 c) ∧ h2.2 = h.2 ∧ (∀ j, j < 5 → h2.1 102 j = nI (zlr A 25 s j) ∧ zlr A 25 s j < 5)
  | 0, k, f + 1, h, hm, hf, hA, hc => by
    obtain rfl : k = 25 := by omega
    refine ⟨h, ?_, fun _ _ => rfl, rfl, hc⟩
    simp only [s_X10_findDoubles_L189, show (25 : Int32) ≤ nI 25 from by decide, reduceIte]
  | m + 1, k, f + 1, h, hm, hf, hA, hc => by
    have c25 : ¬ (25 : Int32) ≤ nI k := nI_ge (b := 25) (by omega) (by decide)
    have hi : k / 5 < 5 := by omega
    have hj : k % 5 < 5 := by omega
    have d5 : zdiv (nI k) 5 = some (nI (k / 5)) := zdivA (d := 5) (by omega) (by decide) (by decide)
    have r5 : zrem (nI k) 5 = some (nI (k % 5)) := zremA (d := 5) (by omega) (by decide) (by decide)
    obtain ⟨ci1, ci2⟩ := hc (k / 5) hi
    obtain ⟨cj1, cj2⟩ := hc (k % 5) hj
    have step : ∀ v, (∀ j, j < 5 → upd (h.1 102) (k % 5) (nI v) j = nI (zlr A (k + 1) s j) ∧ zlr A (k + 1) s j < 5) → ∃ h2 : zHp, s_X10_findDoubles_L189 k182 f a1 (nI (k + 1)) (zwi h 102 (k % 5) (nI v)) = k182 (a1 + 1) h2 ∧ (∀ c, c ≠ 102 → h2.1 c = h.1 c) ∧ h2.2 = h.2 ∧ (∀ j, j < 5 → h2.1 102 j = nI (zlr A 25 s j) ∧ zlr A 25 s j < 5) := fun v hv => by
      obtain ⟨h2, q1, q2, q3, q4⟩ := m_lab1 k182 a1 hs4 m (k + 1) f (zwi h 102 (k % 5) (nI v)) (by omega) (by omega) hA (by rw [zwi_self]; exact hv)
      exact ⟨h2, q1, fun c hc2 => by rw [q2 c hc2, zwi_ne c hc2], q3, q4⟩
    have stay : ¬ (A (k / 5) (k % 5) = true ∧ zlr A k s (k / 5) < zlr A k s (k % 5)) → (∀ j, j < 5 → upd (h.1 102) (k % 5) (nI (zlr A k s (k % 5))) j = nI (zlr A (k + 1) s j) ∧ zlr A (k + 1) s j < 5) := fun z j hj2 => by
      have e : zlr A (k + 1) s = zlr A k s := by rw [zlr]; unfold zlb; rw [if_neg z]
      rw [e]
      by_cases e2 : j = k % 5
      · rw [e2, pk_us]; exact ⟨rfl, cj2⟩
      · rw [pk_un e2]; exact hc j hj2
    by_cases c1 : h.2 100 k ≤ 0
    · have a0 := (hA k (by omega)).mp c1
      obtain ⟨h2, q1, q2, q3, q4⟩ := step _ (stay (fun z => by rw [a0] at z; cases z.1))
      refine ⟨h2, ?_, q2, q3, q4⟩
      simp only [s_X10_findDoubles_L189, s_X10_findDoubles_L246, s_X10_findDoubles_L253, c25, reduceIte, d5, r5, Option.bind_some, zrj_ok (show k < 25 by omega) (by decide), c1, zriA hj (by decide), cj1, zuiA hj (by decide), nI_1]
      exact q1
    · have a1' : A (k / 5) (k % 5) = true := by
        cases e : A (k / 5) (k % 5)
        · exact absurd ((hA k (by omega)).mpr e) c1
        · rfl
      by_cases c2 : zlr A k s (k % 5) ≤ zlr A k s (k / 5)
      · obtain ⟨h2, q1, q2, q3, q4⟩ := step _ (stay (fun z => by omega))
        refine ⟨h2, ?_, q2, q3, q4⟩
        simp only [s_X10_findDoubles_L189, s_X10_findDoubles_L246, s_X10_findDoubles_L253, c25, reduceIte, d5, r5, Option.bind_some, zrj_ok (show k < 25 by omega) (by decide), c1, zriA hj (by decide), zriA hi (by decide), cj1, ci1, nI_le c2 (show zlr A k s (k / 5) < 2 ^ 31 by omega), zuiA hj (by decide), nI_1]
        exact q1
      · have e : zlr A (k + 1) s = znp (zlr A k s) (k % 5) (zlr A k s (k / 5)) := by rw [zlr]; unfold zlb; rw [if_pos ⟨a1', by omega⟩]
        obtain ⟨h2, q1, q2, q3, q4⟩ := step (zlr A k s (k / 5)) (fun j hj2 => by
          rw [e]
          unfold znp
          by_cases e2 : j = k % 5
          · rw [if_pos e2, e2, pk_us]; exact ⟨rfl, ci2⟩
          · rw [if_neg e2, pk_un e2]; exact hc j hj2)
        refine ⟨h2, ?_, q2, q3, q4⟩
        simp only [s_X10_findDoubles_L189, s_X10_findDoubles_L253, c25, reduceIte, d5, r5, Option.bind_some, zrj_ok (show k < 25 by omega) (by decide), c1, zriA hj (by decide), zriA hi (by decide), cj1, ci1, nI_ge (show zlr A k s (k / 5) < zlr A k s (k % 5) by omega) (show zlr A k s (k % 5) < 2 ^ 31 by omega), zuiA hj (by decide), nI_1]
        exact q1
theorem m_lab2 {A : Nat → Nat → Bool} : ∀ m n f (h : zHp), n + m = 5 → m < f → (∀ p, p < 25 → (h.2 100 p ≤ 0 ↔ A (p / 5) (p % 5) = false)) → (∀ j, j < 5 → h.1 102 j = nI (zls A n j)) → ∃ h2 : zHp, s_X10_findDoubles_L182 f (nI n) h = some h2 ∧ (∀ c, c ≠ 102 → h2.1 c = h.1 c) ∧ h2.2 = h.2 ∧ (∀ j, j < 5 → h2.1 102 j = nI (zls A 5 j))
  | 0, n, f + 1, h, hm, hf, hA, hc => by
    obtain rfl : n = 5 := by omega
    refine ⟨h, ?_, fun _ _ => rfl, rfl, hc⟩
    simp only [s_X10_findDoubles_L182, z55, reduceIte]
  | m + 1, n, f + 1, h, hm, hf, hA, hc => by
    have lt : ∀ j, j < 5 → zls A n j < 5 := fun j hj => Nat.lt_of_le_of_lt (zls_le A j n) hj
    obtain ⟨h2, q1, q2, q3, q4⟩ := m_lab1 (s_X10_findDoubles_L182 f) (nI n) (A := A) (s := zls A n) lt 25 0 zFU h (by omega) (zFU_gt (by decide)) hA (fun j hj => ⟨hc j hj, lt j hj⟩)
    obtain ⟨h3, r1, r2, r3, r4⟩ := m_lab2 m (n + 1) f h2 (by omega) (by omega) (by rw [q3]; exact hA) (fun j hj => (q4 j hj).1)
    refine ⟨h3, ?_, fun c hc2 => by rw [r2 c hc2, q2 c hc2], by rw [r3, q3], r4⟩
    rw [nI_0, nI_1] at q1
    simp only [s_X10_findDoubles_L182, z5le (show n < 5 by omega), reduceIte]
    rw [q1, r1]
/-- what findDoubles leaves behind -/
def zFd (h : zHp) (nc nl : Nat) (h' : zHp) : Prop := zSame h h' ∧ zMS h' (zJm h nl) (zAm h nc nl) ∧ (∀ j, j < 5 → h'.1 102 j = nI (zls (zAd h nl) 5 j))
theorem m_fd {h : zHp} {t nc nk nl nt np : Nat} (hN : zIW h t nc nk nl nt np) : ∃ h' : zHp, s_X10_findDoubles h = some h' ∧ zFd h nc nl h' := by
  have hl := hN.2.2.2.2.2.1
  have hnl := hl.1.2.2
  obtain ⟨h1, a1, a2, a3⟩ := m_fd4 25 0 zFU h (by omega) (zFU_gt (by decide)) (fun i hi => by omega)
  obtain ⟨h2, b1, b2, b3, b4, b5⟩ := m_fd3 5 0 zFU h1 (by omega) (zFU_gt (by decide)) (fun i hi => by omega) (fun i hi => by omega)
  have s2 : zSame h h2 := zSame2 (p := 102) (q := 102) (by decide) (by decide) (by decide) (by decide) (fun k k1 _ => by rw [b2 k k1, a2])
  obtain ⟨h3, c1, c2, c3, c4⟩ := m_fd2 hN nl 0 zFU h2 (by omega) (zFU_gt (by omega)) s2 b3 ⟨fun i k hi hk => by rw [b5, a3 _ (by omega)]; exact lI_0.symm, fun i hi => by rw [b4 i hi]; exact lI_0.symm⟩
  have hA : ∀ p, p < 25 → (h3.2 100 p ≤ 0 ↔ zAd h nl (p / 5) (p % 5) = false) := fun p hp => by
    have := c4.1 (p / 5) (p % 5) (by omega) (by omega)
    rw [show 5 * (p / 5) + p % 5 = p from by omega] at this
    have b := zJm_bd hN (p / 5) (p % 5)
    rw [this, lI_le0 (zBna b (by decide))]
    unfold zAd
    rw [decide_eq_false_iff_not]
    omega
  obtain ⟨h4, d1, d2, d3, d4⟩ := m_lab2 (A := zAd h nl) 5 0 zFU h3 (by omega) (zFU_gt (by decide)) hA (fun j hj => c3 j hj)
  rw [nI_0] at a1 b1 c1 d1
  refine ⟨h4, ?_, c2.tr (zSame2 (p := 102) (q := 102) (by decide) (by decide) (by decide) (by decide) (fun k k1 _ => d2 k k1)), by unfold zMS; rw [d3]; exact c4, d4⟩
  unfold s_X10_findDoubles
  rw [a1, b1, c1, d1]
def zjn (h : zHp) (nl i : Nat) : Nat → Bool
  | 0 => false
  | k + 1 => zjn h nl i k || zAd h nl i k
theorem m_join5 {h h' : zHp} {t nc nk nl nt np : Nat} (hN : zIW h t nc nk nl nt np) (hM : ∀ i k, i < 5 → k < 5 → h'.2 100 (5 * i + k) = lI (zJm h nl i k)) {i : Nat} (hi : i < 5) : ∀ m k f, k + m = 5 → m < f → s_X10_isJoined_L4 f (nI i) (zb2 (zjn h nl i k)) (nI k) h' = some (zb2 (zjn h nl i 5), h')
  | 0, k, f + 1, hm, hf => by
    obtain rfl : k = 5 := by omega
    simp only [s_X10_isJoined_L4, z55, reduceIte]
    unfold zb2
    cases zjn h nl i 5
    · simp only [Bool.false_eq_true, reduceIte, zbo0, Option.bind_some]
    · simp only [reduceIte, zbo1, Option.bind_some]
  | m + 1, k, f + 1, hm, hf => by
    have ih := m_join5 hN hM hi m (k + 1) f (by omega) (by omega)
    have hk : k < 5 := by omega
    rw [show zjn h nl i (k + 1) = (zjn h nl i k || zAd h nl i k) from rfl] at ih
    unfold zb2 at ih ⊢
    cases e : zjn h nl i k
    · rw [e] at ih
      have b := zJm_bd hN i k
      simp only [s_X10_isJoined_L4, s_X10_isJoined_L28, s_X10_isJoined_L33, z5le hk, reduceIte, Bool.false_eq_true, zix5, zrj_ok (show 5 * i + k < 25 by omega) (by decide), hM i k hi hk, Option.bind_some, lI_le0 (zBna b (by decide)), nI_1]
      rw [Bool.false_or] at ih
      unfold zAd at ih
      by_cases c : 0 < zJm h nl i k
      · rw [decide_eq_true c] at ih
        rw [if_neg (by omega)]
        simp only [reduceIte] at ih
        exact ih
      · rw [decide_eq_false c] at ih
        rw [if_pos (by omega)]
        simp only [Bool.false_eq_true, reduceIte] at ih
        exact ih
    · rw [e, Bool.true_or] at ih
      simp only [s_X10_isJoined_L4, s_X10_isJoined_L28, s_X10_isJoined_L33, z5le hk, reduceIte, z10, nI_1]
      simp only [reduceIte] at ih
      exact ih
theorem m_joined {h h' : zHp} {t nc nk nl nt np : Nat} (hN : zIW h t nc nk nl nt np) (hM : ∀ i k, i < 5 → k < 5 → h'.2 100 (5 * i + k) = lI (zJm h nl i k)) {i : Nat} (hi : i < 5) : s_X10_isJoined (nI i) h' = some (zb2 (zjn h nl i 5), h') := by
  have q := m_join5 hN hM hi 5 0 zFU (by omega) (zFU_gt (by decide))
  rw [nI_0] at q
  exact q
theorem zjn_iff (h : zHp) (nl i : Nat) : ∀ n, zjn h nl i n = false ↔ ∀ k, k < n → zAd h nl i k = false
  | 0 => ⟨fun _ k hk => by omega, fun _ => rfl⟩
  | n + 1 => by
    rw [show zjn h nl i (n + 1) = (zjn h nl i n || zAd h nl i n) from rfl, Bool.or_eq_false_iff, zjn_iff h nl i n]
    constructor
    · rintro ⟨a, b⟩ k hk
      by_cases e : k = n
      · subst e; exact b
      · exact a k (by omega)
    · intro a
      exact ⟨fun k hk => a k (by omega), a n (by omega)⟩
/-! the determinant -/
def dW (n : Nat) (e : Nat → Nat → Int) : Nat → Nat → Nat → (Nat → Nat) → Int → Int
  | 0, _, _, _, v => v
  | m + 1, k, w, o, v => dW n e m (k + 1) (w / (n - k)) (znp (znp o k (o (k + w % (n - k)))) (k + w % (n - k)) (o k)) ((if k + w % (n - k) = k then v else -v) * e k (o (k + w % (n - k))))
def dR (n : Nat) (e : Nat → Nat → Int) : Nat → Int
  | 0 => 0
  | w + 1 => dR n e w + dW n e n 0 w id 1
set_option maxRecDepth 10000 in
theorem dR1 (e : Nat → Nat → Int) : dR 1 e 1 = e 0 0 := by simp [dR, dW]
set_option maxRecDepth 10000 in
theorem dR2 (e : Nat → Nat → Int) : dR 2 e 2 = g2D e 0 1 0 1 := by
  simp [dR, dW, znp, g2D]
  grind
set_option maxRecDepth 10000 in
theorem dR3 (e : Nat → Nat → Int) : dR 3 e 6 = g3D e 0 1 2 0 1 2 := by
  simp [dR, dW, znp, g3D, g2D]
  grind
set_option maxRecDepth 10000 in
theorem dR4 (e : Nat → Nat → Int) : dR 4 e 24 = g4D e 0 1 2 3 0 1 2 3 := by
  simp [dR, dW, znp, g4D, g3D, g2D]
  grind
/-- the entries of the reference's block -/
def zEn (J : Nat → Nat → Int) (A : Nat → Int) (D : Nat → Int) (of : Nat → Nat) (rp : Nat → Bool) (r c : Nat) : Int := if rp c then A (of r) else if r = c then D (of r) else -(J (of r) (of c))
theorem m_entry1 {h : zHp} {J : Nat → Nat → Int} {A : Nat → Int} (hM : zMS h J A) {r o : Nat} (hr : r < 4) (h103 : h.1 103 r = nI o) (ho : o < 5) : ∃ v, s_X10_entry_L50 zFU (nI r) 0 0 h = some (v, h) ∧ v = lI (J o 0 + J o 1 + J o 2 + J o 3 + J o 4) := by
  obtain ⟨f, hfu⟩ : ∃ f, zFU = f + 6 := ⟨4611686018427387898, rfl⟩
  rw [hfu]
  have e0 : ((5 : Int32) * nI o) + 0 = nI (5 * o + 0) := by rw [← nI_0]; exact zix5.2
  have e1 : ((5 : Int32) * nI o) + 1 = nI (5 * o + 1) := (zix5 (a := o) (b := 1)).2
  have e2 : ((5 : Int32) * nI o) + 2 = nI (5 * o + 2) := (zix5 (a := o) (b := 2)).2
  have e3 : ((5 : Int32) * nI o) + 3 = nI (5 * o + 3) := (zix5 (a := o) (b := 3)).2
  have e4 : ((5 : Int32) * nI o) + 4 = nI (5 * o + 4) := (zix5 (a := o) (b := 4)).2
  refine ⟨_, ?_, rfl⟩
  simp only [s_X10_entry_L50, show ¬ (5 : Int32) ≤ 0 from by decide, show ¬ (5 : Int32) ≤ 0 + 1 from by decide, show ¬ (5 : Int32) ≤ 0 + 1 + 1 from by decide, show ¬ (5 : Int32) ≤ 0 + 1 + 1 + 1 from by decide, show ¬ (5 : Int32) ≤ 0 + 1 + 1 + 1 + 1 from by decide, show (5 : Int32) ≤ 0 + 1 + 1 + 1 + 1 + 1 from by decide, reduceIte, zriA hr (by decide), h103, Option.bind_some, show (0 : Int32) + 1 = 1 from by decide, show (1 : Int32) + 1 = 2 from by decide, show (2 : Int32) + 1 = 3 from by decide, show (3 : Int32) + 1 = 4 from by decide, show (4 : Int32) + 1 = 5 from by decide, show ¬ (5 : Int32) ≤ 1 from by decide, show ¬ (5 : Int32) ≤ 2 from by decide, show ¬ (5 : Int32) ≤ 3 from by decide, show ¬ (5 : Int32) ≤ 4 from by decide, show (5 : Int32) ≤ 5 from by decide, e0, e1, e2, e3, e4, zrj_ok (show 5 * o + 0 < 25 by omega) (by decide), zrj_ok (show 5 * o + 1 < 25 by omega) (by decide), zrj_ok (show 5 * o + 2 < 25 by omega) (by decide), zrj_ok (show 5 * o + 3 < 25 by omega) (by decide), zrj_ok (show 5 * o + 4 < 25 by omega) (by decide), hM.1 o 0 ho (by decide), hM.1 o 1 ho (by decide), hM.1 o 2 ho (by decide), hM.1 o 3 ho (by decide), hM.1 o 4 ho (by decide), Int64.zero_add, lI_add]
theorem m_entry {h : zHp} {J : Nat → Nat → Int} {A D : Nat → Int} (hM : zMS h J A) (hD : ∀ o, o < 5 → J o 0 + J o 1 + J o 2 + J o 3 + J o 4 = D o) {n : Nat} (hn : n ≤ 4) {of : Nat → Nat} (hof : ∀ p, p < n → h.1 103 p = nI (of p) ∧ of p < 5) {a3 : Int32} {rp : Nat → Bool} (hrp : ∀ c, c < n → (nI c = a3 ↔ rp c = true)) {r c : Nat} (hr : r < n) (hc : c < n) : s_X10_entry (nI r) (nI c) a3 h = some (lI (zEn J A D of rp r c), h) := by
  obtain ⟨r1, r2⟩ := hof r hr
  obtain ⟨c1, c2⟩ := hof c hc
  unfold s_X10_entry zEn
  by_cases e : nI c = a3
  · rw [if_pos e, if_pos ((hrp c hc).mp e), zbs (zriA (show r < 4 by omega) (by decide) h 103), r1, zbs (zrj_ok r2 (by decide)), hM.2 _ r2]
  · rw [if_neg e, if_neg (fun z => e ((hrp c hc).mpr z))]
    by_cases e2 : r = c
    · subst e2
      obtain ⟨v, q1, q2⟩ := m_entry1 hM (show r < 4 by omega) r1 r2
      rw [if_pos rfl, if_pos rfl, q1, q2, hD _ r2]
    · rw [if_neg (fun z => e2 ((nI_eq (by omega) (by omega)).mp z)), if_neg e2, zbs (zriA (show r < 4 by omega) (by decide) h 103), zbs (zriA (show c < 4 by omega) (by decide) h 103), r1, c1, zix5.2, zbs (zrj_ok (show 5 * of r + of c < 25 by omega) (by decide)), hM.1 _ _ r2 c2, lI_neg]
/-- what a determinant of the reference stands on -/
def zDS (h : zHp) (J : Nat → Nat → Int) (A : Nat → Int) (n : Nat) (of : Nat → Nat) : Prop := zMS h J A ∧ h.1 67 43 = nI n ∧ ∀ p, p < n → h.1 103 p = nI (of p) ∧ of p < 5
theorem zDS_same {h h' : zHp} {J : Nat → Nat → Int} {A : Nat → Int} {n : Nat} {of : Nat → Nat} (H : zDS h J A n of) (e1 : ∀ c, c ≠ 104 → h'.1 c = h.1 c) (e2 : h'.2 = h.2) : zDS h' J A n of := by
  unfold zDS zMS
  rw [e1 67 (by decide), e1 103 (by decide), e2]
  exact H
theorem m_det1 {J : Nat → Nat → Int} {A D : Nat → Int} (hD : ∀ o, o < 5 → J o 0 + J o 1 + J o 2 + J o 3 + J o 4 = D o) (k33 : Int32 → Int64 → Int32 → Int32 → zHp → Option (Int64 × zHp)) {n : Nat} (hn : n ≤ 4) {of : Nat → Nat} {a1 : Int32} {rp : Nat → Bool} (hrp : ∀ c, c < n → (nI c = a1 ↔ rp c = true)) (a2 : Int64) (a4 a5 : Int32) : ∀ m k w f o v (h : zHp), k + m = n → m < f → w < 2 ^ 31 → zDS h J A n of → (∀ p, p < n → h.1 104 p = nI (o p) ∧ o p < n) → ∃ h2 : zHp, s_X10_determinant_L77 k33 f a1 a2 a4 a5 (nI w) (lI v) (nI k) h = k33 a1 (a2 + lI (dW n (zEn J A D of rp) m k w o v)) a4 (a5 + 1) h2 ∧ (∀ c, c ≠ 104 → h2.1 c = h.1 c) ∧ h2.2 = h.2
  | 0, k, w, f + 1, o, v, h, hm, hf, hw, H, ho => by
    obtain rfl : k = n := by omega
    refine ⟨h, ?_, fun _ _ => rfl, rfl⟩
    simp only [s_X10_determinant_L77, H.2.1, nI_le (Nat.le_refl k) (show k < 2 ^ 31 by omega), reduceIte, Option.bind_some, dW]
  | m + 1, k, w, f + 1, o, v, h, hm, hf, hw, H, ho => by
    have hmod : w % (n - k) < n - k := Nat.mod_lt _ (by omega)
    have hq : w / (n - k) ≤ w := Nat.div_le_self _ _
    rw [dW]
    generalize ej : k + w % (n - k) = j at *
    have hk : k < n := by omega
    have hj : j < n := by omega
    obtain ⟨k1, k2⟩ := ho k hk
    obtain ⟨j1, j2⟩ := ho j hj
    have hat : (zwi (zwi h 104 k (nI (o j))) 104 j (nI (o k))).1 104 k = nI (o j) := by
      rw [zwi_self, zwi_self]
      by_cases e : k = j
      · subst e; rw [pk_us]
      · rw [pk_un e, pk_us]
    have H9 : zDS (zwi (zwi h 104 k (nI (o j))) 104 j (nI (o k))) J A n of := zDS_same H (fun c hc => by rw [zwi_ne c hc, zwi_ne c hc]) rfl
    have en := m_entry H9.1 hD hn H9.2.2 hrp hk j2
    obtain ⟨h2, q1, q2, q3⟩ := m_det1 hD k33 hn hrp a2 a4 a5 m (k + 1) (w / (n - k)) f (znp (znp o k (o j)) j (o k)) ((if j = k then v else -v) * zEn J A D of rp k (o j)) (zwi (zwi h 104 k (nI (o j))) 104 j (nI (o k))) (by omega) (by omega) (by omega) H9 (fun p hp => by
      rw [zwi_self, zwi_self]
      unfold znp
      by_cases e1 : p = j
      · rw [if_pos e1, e1, pk_us]; exact ⟨rfl, k2⟩
      · rw [if_neg e1, pk_un e1]
        by_cases e2 : p = k
        · rw [if_pos e2, e2, pk_us]; exact ⟨rfl, j2⟩
        · rw [if_neg e2, pk_un e2]; exact ho p hp)
    refine ⟨h2, ?_, fun c hc => by rw [q2 c hc, zwi_ne c hc, zwi_ne c hc], q3⟩
    rw [← q1]
    have s43 : nI n - nI k = nI (n - k) := pk_sub (by omega)
    rw [s_X10_determinant_L77, H.2.1, if_neg (nI_ge hk (by omega)), s43, zbs (zremA hw (by omega) (by omega)), zbs rfl, nI_add, ej, zbs (zdivA hw (by omega) (by omega)), zbs (zriA (show k < 4 by omega) (by decide) h 104), zbs (zriA (show j < 4 by omega) (by decide) h 104), k1, j1, zbs (zuiA (show k < 4 by omega) (by decide) _ 104 _), zbs (zuiA (show j < 4 by omega) (by decide) _ 104 _)]
    by_cases e : j = k
    · rw [if_pos (by rw [e])]
      unfold s_X10_determinant_L160
      rw [zbs (zriA (show k < 4 by omega) (by decide) _ 104), hat, en, if_pos e]
      simp only [Option.bind_some, lI_mul, nI_1]
    · rw [if_neg (fun z => e ((nI_eq (by omega) (by omega)).mp z))]
      unfold s_X10_determinant_L160
      rw [zbs (zriA (show k < 4 by omega) (by decide) _ 104), hat, en, if_neg e]
      simp only [Option.bind_some, lI_mul, lI_neg, nI_1]
theorem m_det2 (k33 : Int32 → Int64 → Int32 → Int32 → zHp → Option (Int64 × zHp)) {n : Nat} (hn : n ≤ 4) (a1 : Int32) (a2 : Int64) (a4 a5 a6 : Int32) : ∀ m j f (h : zHp), j + m = n → m < f → h.1 67 43 = nI n → (∀ p, p < j → h.1 104 p = nI p) → ∃ h2 : zHp, s_X10_determinant_L47 k33 f a1 a2 a4 a5 a6 (nI j) h = s_X10_determinant_L77 k33 zFU a1 a2 a4 a5 a6 1 0 h2 ∧ (∀ c, c ≠ 104 → h2.1 c = h.1 c) ∧ h2.2 = h.2 ∧ (∀ p, p < n → h2.1 104 p = nI p)
  | 0, j, f + 1, h, hm, hf, h43, hp => by
    obtain rfl : j = n := by omega
    refine ⟨h, ?_, fun _ _ => rfl, rfl, hp⟩
    simp only [s_X10_determinant_L47, h43, nI_le (Nat.le_refl j) (show j < 2 ^ 31 by omega), reduceIte]
  | m + 1, j, f + 1, h, hm, hf, h43, hp => by
    obtain ⟨h2, q1, q2, q3, q4⟩ := m_det2 k33 hn a1 a2 a4 a5 a6 m (j + 1) f (zwi h 104 j (nI j)) (by omega) (by omega) (by rw [zwi_ne 67 (by decide)]; exact h43) (fun p hp2 => by
      rw [zwi_self]
      by_cases e : p = j
      · subst e; rw [pk_us]
      · rw [pk_un e]; exact hp p (by omega))
    refine ⟨h2, ?_, fun c hc => by rw [q2 c hc, zwi_ne c hc], q3, q4⟩
    simp only [s_X10_determinant_L47, h43, nI_ge (show j < n by omega) (show n < 2 ^ 31 by omega), reduceIte, zuiA (show j < 4 by omega) (by decide), Option.bind_some, nI_1]
    exact q1
theorem m_det3 {J : Nat → Nat → Int} {A D : Nat → Int} (hD : ∀ o, o < 5 → J o 0 + J o 1 + J o 2 + J o 3 + J o 4 = D o) {n : Nat} (hn : n ≤ 4) {of : Nat → Nat} {a1 : Int32} {rp : Nat → Bool} (hrp : ∀ c, c < n → (nI c = a1 ↔ rp c = true)) {W : Nat} (hW : W ≤ 24) : ∀ m w f (h : zHp), w + m = W → m < f → zDS h J A n of → ∃ h2 : zHp, s_X10_determinant_L33 f a1 (lI (dR n (zEn J A D of rp) w)) (nI W) (nI w) h = some (lI (dR n (zEn J A D of rp) W), h2) ∧ (∀ c, c ≠ 104 → h2.1 c = h.1 c) ∧ h2.2 = h.2
  | 0, w, f + 1, h, hm, hf, H => by
    obtain rfl : w = W := by omega
    refine ⟨h, ?_, fun _ _ => rfl, rfl⟩
    simp only [s_X10_determinant_L33, nI_le (Nat.le_refl w) (show w < 2 ^ 31 by omega), reduceIte]
  | m + 1, w, f + 1, h, hm, hf, H => by
    obtain ⟨h2, q1, q2, q3, q4⟩ := m_det2 (s_X10_determinant_L33 f) hn a1 (lI (dR n (zEn J A D of rp) w)) (nI W) (nI w) (nI w) n 0 zFU h (by omega) (zFU_gt (by omega)) H.2.1 (fun p hp => by omega)
    obtain ⟨h3, r1, r2, r3⟩ := m_det1 hD (s_X10_determinant_L33 f) hn hrp (lI (dR n (zEn J A D of rp) w)) (nI W) (nI w) n 0 w zFU id 1 h2 (by omega) (zFU_gt (by omega)) (by omega) (zDS_same H q2 q3) (fun p hp => ⟨q4 p hp, hp⟩)
    have H3 : zDS h3 J A n of := zDS_same H (fun c hc => by rw [r2 c hc, q2 c hc]) (by rw [r3, q3])
    obtain ⟨h4, s1, s2, s3⟩ := m_det3 hD hn hrp hW m (w + 1) f h3 (by omega) (by omega) H3
    refine ⟨h4, ?_, fun c hc => by rw [s2 c hc, r2 c hc, q2 c hc], by rw [s3, r3, q3]⟩
    rw [nI_0] at q1
    rw [lI_1, nI_0] at r1
    rw [s_X10_determinant_L33, if_neg (nI_ge (show w < W by omega) (by omega)), q1, r1, lI_add, nI_1]
    exact s1
def zfac : Nat → Nat
  | 0 => 1
  | n + 1 => zfac n * (n + 1)
theorem m_det {J : Nat → Nat → Int} {A D : Nat → Int} (hD : ∀ o, o < 5 → J o 0 + J o 1 + J o 2 + J o 3 + J o 4 = D o) {n : Nat} (h1 : 1 ≤ n) (hn : n ≤ 4) {of : Nat → Nat} {a1 : Int32} {rp : Nat → Bool} (hrp : ∀ c, c < n → (nI c = a1 ↔ rp c = true)) {h : zHp} (H : zDS h J A n of) : ∃ h2 : zHp, s_X10_determinant a1 h = some (lI (dR n (zEn J A D of rp) (zfac n)), h2) ∧ (∀ c, c ≠ 104 → h2.1 c = h.1 c) ∧ h2.2 = h.2 := by
  have hW : zfac n ≤ 24 := by
    match n, h1, hn with
    | 1, _, _ => decide
    | 2, _, _ => decide
    | 3, _, _ => decide
    | 4, _, _ => decide
  obtain ⟨h2, q1, q2, q3⟩ := m_det3 hD hn hrp hW (zfac n) 0 zFU h (by omega) (zFU_gt (by omega)) H
  refine ⟨h2, ?_, q2, q3⟩
  rw [← q1]
  have h43 := H.2.1
  unfold s_X10_determinant
  obtain ⟨f, hfu⟩ : ∃ f, zFU = f + 4 := ⟨4611686018427387900, rfl⟩
  have key : s_X10_determinant_L8 (f + 4) a1 0 1 2 h = s_X10_determinant_L33 zFU a1 0 (nI (zfac n)) 0 h := by
    match n, h1, hn, h43 with
    | 1, _, _, h43 => simp only [s_X10_determinant_L8, h43, show nI 1 < (2 : Int32) from by decide, reduceIte, show nI (zfac 1) = 1 from by decide]
    | 2, _, _, h43 => simp only [s_X10_determinant_L8, h43, show ¬ nI 2 < (2 : Int32) from by decide, show nI 2 < (2 : Int32) + 1 from by decide, reduceIte, Option.bind_some, show nI (zfac 2) = 1 * 2 from by decide]
    | 3, _, _, h43 => simp only [s_X10_determinant_L8, h43, show ¬ nI 3 < (2 : Int32) from by decide, show ¬ nI 3 < (2 : Int32) + 1 from by decide, show nI 3 < (2 : Int32) + 1 + 1 from by decide, reduceIte, Option.bind_some, show nI (zfac 3) = 1 * 2 * (2 + 1) from by decide]
    | 4, _, _, h43 => simp only [s_X10_determinant_L8, h43, show ¬ nI 4 < (2 : Int32) from by decide, show ¬ nI 4 < (2 : Int32) + 1 from by decide, show ¬ nI 4 < (2 : Int32) + 1 + 1 from by decide, show nI 4 < (2 : Int32) + 1 + 1 + 1 from by decide, reduceIte, Option.bind_some, show nI (zfac 4) = 1 * 2 * (2 + 1) * (2 + 1 + 1) from by decide]
  rw [← hfu] at key
  rw [key, show lI (dR n (zEn J A D of rp) 0) = 0 from lI_0, nI_0]

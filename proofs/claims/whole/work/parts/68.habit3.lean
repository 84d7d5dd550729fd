/-! ===== the habit: what both find ===== -/
def zTop (h : zHp) (nc nl i : Nat) : Int := if zroot h nl i then 0 else (zD4 (zNe h nc nl i)).tdiv (Int.gcd (zD4 (zNe h nc nl i)) (zD4 (zMe h nl)) : Nat)
def zBel (h : zHp) (nc nl i : Nat) : Int := if zroot h nl i then 1 else (zD4 (zMe h nl)).tdiv (Int.gcd (zD4 (zNe h nc nl i)) (zD4 (zMe h nl)) : Nat)
theorem ztdiv_le (a : Int) (g : Nat) : (a.tdiv (g : Int)).natAbs ≤ a.natAbs := by
  rw [Int.natAbs_tdiv, Int.natAbs_natCast]
  exact Nat.div_le_self _ _
theorem zTop_bd {h : zHp} {t nc nk nl nt np : Nat} (hN : zIW h t nc nk nl nt np) {i : Nat} (hi : i < 5) : (zTop h nc nl i).natAbs ≤ 2393112000000000000 := by
  unfold zTop
  split
  · decide
  · exact Nat.le_trans (ztdiv_le _ _) (znum_bd hN hi)
theorem zBel_bd {h : zHp} {t nc nk nl nt np : Nat} (hN : zIW h t nc nk nl nt np) (i : Nat) : (zBel h nc nl i).natAbs ≤ 2393112000000000 := by
  unfold zBel
  split
  · decide
  · exact Nat.le_trans (ztdiv_le _ _) (zden_bd hN)
theorem ztdiv_pos {a b : Int} (hb : 0 < b) : 0 < b.tdiv (Int.gcd a b : Nat) := by
  have hg : ((Int.gcd a b : Nat) : Int) ∣ b := Int.gcd_dvd_right a b
  obtain ⟨k, hk⟩ := hg
  have g0 : 0 < Int.gcd a b := Int.gcd_pos_of_ne_zero_right a (by omega)
  have g1 : (0 : Int) < (Int.gcd a b : Nat) := by omega
  have e : b.tdiv (Int.gcd a b : Nat) = k := by
    conv => lhs; arg 1; rw [hk]
    rw [Int.mul_tdiv_cancel_left _ (by omega)]
  rw [e]
  rw [hk] at hb
  exact zposm g1 hb
theorem zBel_pos {h : zHp} {t nc nk nl nt np : Nat} (hN : zIW h t nc nk nl nt np) (i : Nat) : 0 < zBel h nc nl i := by
  unfold zBel
  split
  · decide
  · exact ztdiv_pos (zden_pos hN)
theorem zNe_root {h : zHp} {nc nl i : Nat} (hi : i < 5) (h1 : 1 ≤ i) (hr : zroot h nl i = true) : zD4 (zNe h nc nl i) = 0 := by
  refine zD4_row0 h1 (show i ≤ 4 by omega) (fun c _ _ => ?_)
  unfold zNe zYe zMe
  rw [hr, if_pos rfl, if_pos rfl]
  by_cases z : c = i
  · rw [if_pos z]
  · rw [if_neg z, if_neg (fun w => z w.symm)]
theorem e_habit {h h' : zHp} {t nc nk nl nt np : Nat} (hN : zIW h t nc nk nl nt np) (hL : zLn h nc nl h') {i : Nat} (hi : i < 5) : ∃ h2 : zHp, s_X3_habitOf (nI i) h' = some h2 ∧ h2.1 = h'.1 ∧ (∀ k, k ≠ 51 → h2.2 k = h'.2 k) ∧ h2.2 51 0 = lI (zTop h nc nl i) ∧ h2.2 51 1 = lI (zBel h nc nl i) := by
  obtain ⟨-, l1, l2, -⟩ := hL
  have r0 := zroot0 h nl
  have m00 : zMe h nl 0 0 = 1 := by unfold zMe; rw [r0]; rfl
  have m0 : ∀ c, 1 ≤ c → zMe h nl 0 c = 0 := fun c hc => by unfold zMe; rw [r0, if_pos rfl, if_neg (by omega)]
  have y0 : zYe h nc nl 0 = 0 := by unfold zYe; rw [r0]; rfl
  have d1 := e_det2 (h := h') (e := zNe h nc nl i) (a2 := nI i) (fun r c hr hc => by
    unfold zNe
    refine ⟨fun z => ?_, fun z => ?_⟩
    · rw [if_pos ((nI_eq (by omega) (by omega)).mp z)]; exact l2 r hr
    · rw [if_neg (fun w => z (by rw [w]))]; exact l1 r c hr hc) 5 0 0 (by omega) (by decide)
  have d2 := e_det2 (h := h') (e := zMe h nl) (a2 := -1) (fun r c hr hc => by
    refine ⟨fun z => absurd z (nIm1 (by omega)), fun _ => l1 r c hr hc⟩) 5 0 0 (by omega) (by decide)
  rw [dD0 _ m00 (m0 1 (by decide)) (m0 2 (by decide)) (m0 3 (by decide)) (m0 4 (by decide)), dD4] at d2
  have hp := zden_pos hN
  have bd := zBna (zden_bd hN) (by decide)
  have key : ∀ a : Int, dD (zNe h nc nl i) 5 0 0 = a → zB a → a.tdiv (Int.gcd a (zD4 (zMe h nl)) : Nat) = zTop h nc nl i → (zD4 (zMe h nl)).tdiv (Int.gcd a (zD4 (zMe h nl)) : Nat) = zBel h nc nl i → ∃ h2 : zHp, s_X3_habitOf (nI i) h' = some h2 ∧ h2.1 = h'.1 ∧ (∀ k, k ≠ 51 → h2.2 k = h'.2 k) ∧ h2.2 51 0 = lI (zTop h nc nl i) ∧ h2.2 51 1 = lI (zBel h nc nl i) := fun a ha hb e1 e2 => by
    rw [ha] at d1
    refine ⟨zwl (zwl (zwl (zwl h' 51 0 0) 51 1 1) 51 0 (lI (a.tdiv (Int.gcd a (zD4 (zMe h nl)) : Nat)))) 51 1 (lI ((zD4 (zMe h nl)).tdiv (Int.gcd a (zD4 (zMe h nl)) : Nat))), ?_, rfl, fun k hk => zwl3 k hk, ?_, ?_⟩
    · unfold s_X3_habitOf
      rw [nI_0] at d1 d2
      rw [d1, zbs rfl, d2, zbs rfl, e_put_51 hb bd hp, zbs rfl]
    · rw [zwl2.1, e1]
    · rw [zwl2.2, e2]
  have zero : zroot h nl i = true → dD (zNe h nc nl i) 5 0 0 = 0 → ∃ h2 : zHp, s_X3_habitOf (nI i) h' = some h2 ∧ h2.1 = h'.1 ∧ (∀ k, k ≠ 51 → h2.2 k = h'.2 k) ∧ h2.2 51 0 = lI (zTop h nc nl i) ∧ h2.2 51 1 = lI (zBel h nc nl i) := fun hr hz => by
    refine key 0 hz zB0 ?_ ?_
    · unfold zTop; rw [hr, if_pos rfl, Int.zero_tdiv]
    · unfold zBel
      rw [hr, if_pos rfl, Int.gcd_zero_left, Int.natAbs_of_nonneg (by omega), Int.tdiv_self (by omega)]
  by_cases i0 : i = 0
  · subst i0
    refine zero r0 (dDz _ ?_ ?_ ?_ ?_ ?_)
    · unfold zNe; rw [if_pos rfl, y0]
    · unfold zNe; rw [if_neg (by decide), m0 1 (by decide)]
    · unfold zNe; rw [if_neg (by decide), m0 2 (by decide)]
    · unfold zNe; rw [if_neg (by decide), m0 3 (by decide)]
    · unfold zNe; rw [if_neg (by decide), m0 4 (by decide)]
  · have n0 : ∀ c, zNe h nc nl i 0 c = zMe h nl 0 c := fun c => by
      unfold zNe
      split
      · next z => rw [y0, z, m0 i (by omega)]
      · rfl
    have e4 : dD (zNe h nc nl i) 5 0 0 = zD4 (zNe h nc nl i) := by
      rw [dD0 _ (by rw [n0, m00]) (by rw [n0, m0 1 (by decide)]) (by rw [n0, m0 2 (by decide)]) (by rw [n0, m0 3 (by decide)]) (by rw [n0, m0 4 (by decide)]), dD4]
    cases hr : zroot h nl i
    · refine key _ e4 (zBna (znum_bd hN hi) (by decide)) ?_ ?_
      · unfold zTop; rw [hr]; rfl
      · unfold zBel; rw [hr]; rfl
    · exact zero hr (by rw [e4, zNe_root hi (by omega) hr])
/-! the reference -/
theorem zcn_q4 (h : zHp) (nl i : Nat) : ∀ k, k ≤ 5 → zcn (zq4 (zqS h nl i 1) (zqS h nl i 2) (zqS h nl i 3) (zqS h nl i 4)) k = zcn (zqS h nl i) k
  | 0, _ => rfl
  | k + 1, hk => by rw [zcn, zcn, zcn_q4 h nl i k (by omega), zqS_q4 h nl i k (by omega)]
theorem zcn_lt4 (h : zHp) (nl i : Nat) {k : Nat} (hk : k ≤ 5) : zcn (zqS h nl i) k ≤ 4 := by
  have q0 : zqS h nl i 0 = false := by unfold zqS; rw [zroot0]; simp
  have m : zcn (zqS h nl i) 5 ≤ 4 := by
    have e : zcn (zqS h nl i) 5 < 5 := by
      have := zcn_more (p := zqS h nl i) (q := fun _ => true) (y := 0) q0 rfl 5 (by decide) (fun _ _ _ => rfl)
      have b := zcn_le (fun _ => true) 5
      omega
    omega
  have mono : ∀ d, zcn (zqS h nl i) k ≤ zcn (zqS h nl i) (k + d) := fun d => by
    induction d with
    | zero => exact Nat.le_refl _
    | succ d ih => rw [show k + (d + 1) = (k + d) + 1 from by omega, zcn]; omega
  have := mono (5 - k)
  rw [show k + (5 - k) = 5 from by omega] at this
  omega
theorem zcn_step {p : Nat → Bool} {j k : Nat} (hj : p j = true) (hk : j < k) : zcn p j < zcn p k := by
  have mono : ∀ d, zcn p (j + 1) ≤ zcn p (j + 1 + d) := fun d => by
    induction d with
    | zero => exact Nat.le_refl _
    | succ d ih => rw [show j + 1 + (d + 1) = (j + 1 + d) + 1 from by omega]; exact Nat.le_trans ih (Nat.le_add_right _ _)
  have := mono (k - (j + 1))
  rw [show j + 1 + (k - (j + 1)) = k from by omega, zcn, hj] at this
  simp only [reduceIte] at this
  omega
theorem zcn_hit {p : Nat → Bool} : ∀ k r, r < zcn p k → ∃ j, j < k ∧ p j = true ∧ zcn p j = r
  | 0, r, h => by simp [zcn] at h
  | k + 1, r, h => by
    rw [zcn] at h
    by_cases c : r < zcn p k
    · obtain ⟨j, j1, j2, j3⟩ := zcn_hit k r c
      exact ⟨j, by omega, j2, j3⟩
    · cases e : p k
      · rw [e] at h; simp at h; omega
      · rw [e] at h
        simp only [reduceIte] at h
        exact ⟨k, by omega, e, by omega⟩
/-- what stands when the set has been gathered -/
def zGa (h : zHp) (nc nl i k : Nat) (h' : zHp) : Prop := zSame h h' ∧ zMS h' (zJm h nl) (zAm h nc nl) ∧ (∀ j, j < 5 → h'.1 102 j = nI (zls (zAd h nl) 5 j)) ∧ h'.1 67 43 = nI (zcn (zqS h nl i) k) ∧ ∀ j, j < k → zqS h nl i j = true → h'.1 103 (zcn (zqS h nl i) j) = nI j
def zFin (a2 : Int32) (h : zHp) : Option zHp :=
  (s_X10_determinant a2 h).bind fun q2 =>
  (zpl q2.2 67 45 q2.1).bind fun h3 =>
  (s_X10_determinant (-1 : Int32) h3).bind fun q4 =>
  (zpl q4.2 67 46 q4.1).bind fun h5 =>
  (s_X10_divisor (h5.2 67 45) (h5.2 67 46) h5).bind fun q6 =>
  (zldiv (q6.2.2 67 45) q6.1).bind fun v7 =>
  (zpl q6.2 67 45 v7).bind fun h8 =>
  (zldiv (h8.2 67 46) q6.1).bind fun v9 =>
  (zpl h8 67 46 v9).bind fun h10 =>
  some h10
theorem m_gather {h : zHp} {nc nl i : Nat} (hi : i < 5) (hr : zroot h nl i = false) : ∀ m k f (h1 : zHp), k + m = 5 → m < f → zGa h nc nl i k h1 → ∃ h2 : zHp, s_X10_findHabit_L42 f (nI i) (if i < k then nI (zcn (zqS h nl i) i) else 0) (nI k) h1 = zFin (nI (zcn (zqS h nl i) i)) h2 ∧ zGa h nc nl i 5 h2
  | 0, k, f + 1, h1, hm, hf, G => by
    obtain rfl : k = 5 := by omega
    refine ⟨h1, ?_, G⟩
    rw [s_X10_findHabit_L42, if_pos z55, if_pos hi]
    rfl
  | m + 1, k, f + 1, h1, hm, hf, G => by
    have hk : k < 5 := by omega
    obtain ⟨g1, g2, g3, g4, g5⟩ := G
    have lt : ∀ j, j < 5 → zls (zAd h nl) 5 j < 5 := fun j hj => Nat.lt_of_le_of_lt (zls_le _ j 5) hj
    have cl := zcn_lt4 h nl i (k := k) (by omega)
    rw [s_X10_findHabit_L42, if_neg (z5le hk), zbs (zriA hk (by decide) h1 102), zbs (zriA hi (by decide) h1 102), g3 k hk, g3 i hi]
    cases cq : zqS h nl i k
    · have e1 : zcn (zqS h nl i) (k + 1) = zcn (zqS h nl i) k := by rw [zcn, cq]; rfl
      have ki : k ≠ i := fun z => by rw [z, zqS_self hr] at cq; cases cq
      have G' : zGa h nc nl i (k + 1) h1 := ⟨g1, g2, g3, by rw [e1]; exact g4, fun j hj hq => g5 j (by
        by_cases z : j = k
        · rw [z, cq] at hq; cases hq
        · omega) hq⟩
      obtain ⟨h2, q1, q2⟩ := m_gather hi hr m (k + 1) f h1 (by omega) (by omega) G'
      refine ⟨h2, ?_, q2⟩
      rw [← q1]
      have at1 : (if i < k then nI (zcn (zqS h nl i) i) else 0) = (if i < k + 1 then nI (zcn (zqS h nl i) i) else (0 : Int32)) := by
        by_cases z : i < k
        · rw [if_pos z, if_pos (by omega)]
        · rw [if_neg z, if_neg (by omega)]
      by_cases c1 : zls (zAd h nl) 5 k = zls (zAd h nl) 5 i
      · have rk : zroot h nl k = true := by
          unfold zqS at cq
          rw [decide_eq_true c1, Bool.true_and] at cq
          simpa using cq
        have := of_decide_eq_true rk
        rw [if_pos (by rw [c1]), zbs (zriA hk (by decide) h1 102), g3 k hk, if_pos (by rw [this]), s_X10_findHabit_L106, nI_1, at1]
      · rw [if_neg (fun z => c1 ((nI_eq (by have := lt k hk; omega) (by have := lt i hi; omega)).mp z)), s_X10_findHabit_L106, nI_1, at1]
    · have e1 : zcn (zqS h nl i) (k + 1) = zcn (zqS h nl i) k + 1 := by rw [zcn, cq]; rfl
      have c1 : zls (zAd h nl) 5 k = zls (zAd h nl) 5 i := by
        unfold zqS at cq
        rw [Bool.and_eq_true] at cq
        exact of_decide_eq_true cq.1
      have c2 : ¬ zls (zAd h nl) 5 k = k := of_decide_eq_false (zqS_root cq)
      have c4 : zcn (zqS h nl i) k < 4 := by
        have := zcn_lt4 h nl i (k := k + 1) (by omega)
        omega
      have G' : zGa h nc nl i (k + 1) (zwi (zwi h1 103 (zcn (zqS h nl i) k) (nI k)) 67 43 (nI (zcn (zqS h nl i) (k + 1)))) := by
        refine ⟨(g1.wi 103 _ _ (by decide) (Or.inl (by decide))).wi 67 43 _ (by decide) (Or.inr (Or.inr rfl)), g2, fun j hj => ?_, ?_, fun j hj hq => ?_⟩
        · rw [zwi_ne 102 (by decide), zwi_ne 102 (by decide)]; exact g3 j hj
        · rw [zwi_self, pk_us]
        · rw [zwi_ne 103 (by decide), zwi_self]
          by_cases z : j = k
          · subst z; rw [pk_us]
          · have := zcn_step (p := zqS h nl i) hq (show j < k by omega)
            rw [pk_un (by omega)]
            exact g5 j (by omega) hq
      obtain ⟨h2, q1, q2⟩ := m_gather hi hr m (k + 1) f _ (by omega) (by omega) G'
      refine ⟨h2, ?_, q2⟩
      rw [← q1]
      have L85 : ∀ b, s_X10_findHabit_L85 (s_X10_findHabit_L42 f) (nI i) (nI k) b h1 = s_X10_findHabit_L42 f (nI i) b (nI (k + 1)) (zwi (zwi h1 103 (zcn (zqS h nl i) k) (nI k)) 67 43 (nI (zcn (zqS h nl i) (k + 1)))) := fun b => by
        unfold s_X10_findHabit_L85 s_X10_findHabit_L106
        rw [g4, zbs (zuiA c4 (by decide) h1 103 (nI k)), zwi_ne 67 (by decide), g4, nI_1, e1, nI_1]
        rfl
      rw [if_pos (by rw [c1]), zbs (zriA hk (by decide) h1 102), g3 k hk, if_neg (fun z => c2 ((nI_eq (by have := lt k hk; omega) (by omega)).mp z))]
      by_cases ki : k = i
      · subst ki
        rw [if_pos rfl, L85, g4, if_pos (by omega)]
      · rw [if_neg (fun z => ki ((nI_eq (by omega) (by omega)).mp z)), L85]
        by_cases z : i < k
        · rw [if_pos z, if_pos (by omega)]
        · rw [if_neg z, if_neg (by omega)]
theorem m_finH {h h1 : zHp} {t nc nk nl nt np : Nat} (hN : zIW h t nc nk nl nt np) {i : Nat} (hi : i < 5) (hr : zroot h nl i = false) (G : zGa h nc nl i 5 h1) : ∃ h2 : zHp, zFin (nI (zcn (zqS h nl i) i)) h1 = some h2 ∧ zSame h h2 ∧ zMS h2 (zJm h nl) (zAm h nc nl) ∧ h2.2 67 45 = lI (zTop h nc nl i) ∧ h2.2 67 46 = lI (zBel h nc nl i) := by
  obtain ⟨g1, g2, g3, g4, g5⟩ := G
  obtain ⟨C, C0, C1, C2, C3⟩ := zhab hN hi hr
  have qi := zqS_self hr
  have n4 := zcn_lt4 h nl i (k := 5) (by omega)
  have ilt := zcn_step (p := zqS h nl i) qi hi
  generalize hn : zcn (zqS h nl i) 5 = n at *
  have hof : ∀ j, j < 5 → zqS h nl i j = true → (h1.1 103 (zcn (zqS h nl i) j)).toNatClampNeg = j := fun j hj hq => by rw [g5 j hj hq, nI_clamp (by omega)]
  have hof2 : ∀ p, p < n → h1.1 103 p = nI (h1.1 103 p).toNatClampNeg ∧ (h1.1 103 p).toNatClampNeg < 5 ∧ zqS h nl i (h1.1 103 p).toNatClampNeg = true ∧ zcn (zqS h nl i) (h1.1 103 p).toNatClampNeg = p := fun p hp => by
    obtain ⟨j, j1, j2, j3⟩ := zcn_hit (p := zqS h nl i) 5 p (by omega)
    subst j3
    rw [hof j j1 j2]
    exact ⟨g5 j j1 j2, j1, j2, rfl⟩
  generalize hO : (fun p => (h1.1 103 p).toNatClampNeg) = of
  have ho : ∀ p, (h1.1 103 p).toNatClampNeg = of p := fun p => by rw [← hO]
  simp only [ho] at hof hof2
  have DS : zDS h1 (zJm h nl) (zAm h nc nl) n of := ⟨g2, g4, fun p hp => ⟨(hof2 p hp).1, (hof2 p hp).2.1⟩⟩
  have hD : ∀ o, o < 5 → zJm h nl o 0 + zJm h nl o 1 + zJm h nl o 2 + zJm h nl o 3 + zJm h nl o 4 = zDm h nl o := fun o ho => zDm_sum hN ho
  have inj : ∀ r c, r < n → c < n → of r = of c → r = c := fun r c hr2 hc2 e => by rw [← (hof2 r hr2).2.2.2, ← (hof2 c hc2).2.2.2, e]
  have hjq : ∀ j, zq4 (zqS h nl i 1) (zqS h nl i 2) (zqS h nl i 3) (zqS h nl i 4) j = true → j < 5 := fun j hj => by
    match j, hj with
    | 0, hj => cases hj
    | 1, _ => decide
    | 2, _ => decide
    | 3, _ => decide
    | 4, _ => decide
    | n + 5, hj => cases hj
  have hof3 : ∀ j, zq4 (zqS h nl i 1) (zqS h nl i 2) (zqS h nl i 3) (zqS h nl i 4) j = true → of (zcn (zq4 (zqS h nl i 1) (zqS h nl i 2) (zqS h nl i 3) (zqS h nl i 4)) j) = j := fun j hj => by
    have j5 := hjq j hj
    rw [zcn_q4 h nl i j (by omega)]
    rw [zqS_q4 h nl i j (by omega)] at hj
    exact hof j j5 hj
  have hn4 : n = zcn (zq4 (zqS h nl i 1) (zqS h nl i 2) (zqS h nl i 3) (zqS h nl i 4)) 5 := by rw [zcn_q4 h nl i 5 (by omega), hn]
  have b1 := zdRB (e := zNe h nc nl i) (E := zEn (zJm h nl) (zAm h nc nl) (zDm h nl) of (fun c => decide (c = zcn (zqS h nl i) i))) hn4 (by omega) hof3 (fun r c hr2 hc2 => by
    obtain ⟨-, r2, r3, r4⟩ := hof2 r hr2
    obtain ⟨-, c2, c3, c4⟩ := hof2 c hc2
    unfold zEn zNe zYe zMe
    rw [zqS_root r3]
    simp only [Bool.false_eq_true, reduceIte, decide_eq_true_eq]
    by_cases z : c = zcn (zqS h nl i) i
    · have e : of c = i := by rw [z]; exact hof i hi qi
      rw [if_pos z, if_pos e]
    · have oc : ¬ of c = i := fun w => z (by rw [← c4, w])
      rw [if_neg z, if_neg oc]
      by_cases y : r = c
      · rw [if_pos y, if_pos (by rw [y])]
      · rw [if_neg y, if_neg (fun w => y (inj r c hr2 hc2 w))])
  have b2 := zdRB (e := zMe h nl) (E := zEn (zJm h nl) (zAm h nc nl) (zDm h nl) of (fun _ => false)) hn4 (by omega) hof3 (fun r c hr2 hc2 => by
    obtain ⟨-, r2, r3, r4⟩ := hof2 r hr2
    unfold zEn zMe
    rw [zqS_root r3]
    simp only [Bool.false_eq_true, reduceIte]
    by_cases y : r = c
    · rw [if_pos y, if_pos (by rw [y])]
    · rw [if_neg y, if_neg (fun w => y (inj r c hr2 hc2 w))])
  obtain ⟨h2, d1, d2, d3⟩ := m_det hD (n := n) (by omega) n4 (a1 := nI (zcn (zqS h nl i) i)) (rp := fun c => decide (c = zcn (zqS h nl i) i)) (fun c hc => by
    rw [decide_eq_true_iff]
    exact nI_eq (by omega) (by omega)) DS
  rw [b1] at d1
  have DS2 : zDS (zwl h2 67 45 (lI (zBk (zNe h nc nl i) (zqS h nl i 1) (zqS h nl i 2) (zqS h nl i 3) (zqS h nl i 4)))) (zJm h nl) (zAm h nc nl) n of := by
    obtain ⟨x1, x2, x3⟩ := zDS_same DS d2 d3
    refine ⟨⟨fun a b ha hb => ?_, fun a ha => ?_⟩, x2, x3⟩
    · rw [zwl_ne 100 (by decide)]; exact x1.1 a b ha hb
    · rw [zwl_ne 101 (by decide)]; exact x1.2 a ha
  obtain ⟨h3, e1, e2, e3⟩ := m_det hD (n := n) (by omega) n4 (a1 := -1) (rp := fun _ => false) (fun c hc => ⟨fun z => absurd z (nIm1 (by omega)), fun z => by cases z⟩) DS2
  rw [b2] at e1
  have hM := zBna (znum_bd hN hi) (by decide)
  have hD2 := zBna (zden_bd hN) (by decide)
  generalize zBk (zNe h nc nl i) (zqS h nl i 1) (zqS h nl i 2) (zqS h nl i 3) (zqS h nl i 4) = a at *
  generalize zBk (zMe h nl) (zqS h nl i 1) (zqS h nl i 2) (zqS h nl i 3) (zqS h nl i 4) = b at *
  have abs : ∀ x : Int, zB (x * C) → zB x := fun x hx => by
    have n1 : x.natAbs ≤ (x * C).natAbs := by
      rw [Int.natAbs_mul]
      exact Nat.le_mul_of_pos_right _ (by omega)
    obtain ⟨u, v⟩ := hx
    exact ⟨by omega, by omega⟩
  have ha : zB a := abs a (by rw [← C2]; exact hM)
  have hb : zB b := abs b (by rw [← C1]; exact hD2)
  have b0 : b ≠ 0 := by omega
  obtain ⟨gp, gB⟩ := zgcdB (a := a) hb b0
  have g0 : ((Int.gcd a b : Nat) : Int) ≠ 0 := by omega
  have fr := zfrac (a := a) (b := b) C0
  have et : zTop h nc nl i = a.tdiv (Int.gcd a b : Nat) := by
    unfold zTop; rw [hr, C1, C2]; exact fr.1
  have eb : zBel h nc nl i = b.tdiv (Int.gcd a b : Nat) := by
    unfold zBel; rw [hr, C1, C2]; exact fr.2
  have r45 : (zwl h3 67 46 (lI b)).2 67 45 = lI a := by
    rw [zwl_self, pk_uLn (by decide), e3, zwl_self, pk_uLs]
  have r46 : (zwl h3 67 46 (lI b)).2 67 46 = lI b := by rw [zwl_self, pk_uLs]
  refine ⟨zwl (zwl (zwl h3 67 46 (lI b)) 67 45 (lI (a.tdiv (Int.gcd a b : Nat)))) 67 46 (lI (b.tdiv (Int.gcd a b : Nat))), ?_, ?_, ?_, ?_, ?_⟩
  · unfold zFin zpl
    rw [d1]
    simp only [Option.bind_some]
    rw [e1]
    simp only [Option.bind_some]
    rw [r45, r46, m_gcd ha hb]
    simp only [Option.bind_some]
    rw [r45, zldivI ha gB g0]
    simp only [Option.bind_some]
    rw [show (zwl (zwl h3 67 46 (lI b)) 67 45 (lI (a.tdiv (Int.gcd a b : Nat)))).2 67 46 = lI b from by rw [zwl_self, pk_uLn (by decide), r46], zldivI hb gB g0]
    rfl
  · exact g1.tr (zSame2 (p := 104) (q := 104) (by decide) (by decide) (by decide) (by decide) (fun k k1 _ => by
      show h3.1 k = h1.1 k
      rw [e2 k k1]
      show h2.1 k = h1.1 k
      exact d2 k k1))
  · refine ⟨fun x y hx hy => ?_, fun x hx => ?_⟩
    · rw [zwl_ne 100 (by decide), zwl_ne 100 (by decide), zwl_ne 100 (by decide), e3, zwl_ne 100 (by decide), d3]; exact g2.1 x y hx hy
    · rw [zwl_ne 101 (by decide), zwl_ne 101 (by decide), zwl_ne 101 (by decide), e3, zwl_ne 101 (by decide), d3]; exact g2.2 x hx
  · rw [zwl_self, pk_uLn (by decide), zwl_self, pk_uLs, et]
  · rw [zwl_self, pk_uLs, eb]
theorem zroot_alone {h : zHp} {nl i : Nat} (hi : i < 5) (hj : zjn h nl i 5 = false) : zroot h nl i = true := by
  rw [zjn_iff] at hj
  refine decide_eq_true (zls_inv (A := zAd h nl) (fun j v => j = i → v = i) (fun x j v hx hj2 e hp z => ?_) (fun j _ z => z) 5 i hi rfl)
  subst z
  rw [zAd_symm, hj x hx] at e
  cases e
theorem m_habit {h : zHp} {t nc nk nl nt np : Nat} (hN : zIW h t nc nk nl nt np) {i : Nat} (hi : i < 5) : ∃ h2 : zHp, s_X10_findHabit (nI i) h = some h2 ∧ zSame h h2 ∧ zMS h2 (zJm h nl) (zAm h nc nl) ∧ h2.2 67 45 = lI (zTop h nc nl i) ∧ h2.2 67 46 = lI (zBel h nc nl i) := by
  obtain ⟨h1, q1, q2, q3, q4⟩ := m_fd hN
  have ms : zMS (zwl (zwl h1 67 45 0) 67 46 1) (zJm h nl) (zAm h nc nl) := by
    refine ⟨fun x y hx hy => ?_, fun x hx => ?_⟩
    · rw [zwl_ne 100 (by decide), zwl_ne 100 (by decide)]; exact q3.1 x y hx hy
    · rw [zwl_ne 101 (by decide), zwl_ne 101 (by decide)]; exact q3.2 x hx
  have jn := m_joined hN ms.1 hi
  have lt : zls (zAd h nl) 5 i < 5 := Nat.lt_of_le_of_lt (zls_le _ i 5) hi
  have done : zroot h nl i = true → some (zwl (zwl h1 67 45 0) 67 46 1) = s_X10_findHabit (nI i) h → ∃ h2 : zHp, s_X10_findHabit (nI i) h = some h2 ∧ zSame h h2 ∧ zMS h2 (zJm h nl) (zAm h nc nl) ∧ h2.2 67 45 = lI (zTop h nc nl i) ∧ h2.2 67 46 = lI (zBel h nc nl i) := fun hr e => by
    refine ⟨_, e.symm, q2, ms, ?_, ?_⟩
    · rw [zwl_self, pk_uLn (by decide), zwl_self, pk_uLs]
      unfold zTop
      rw [hr, if_pos rfl, lI_0]
    · rw [zwl_self, pk_uLs]
      unfold zBel
      rw [hr, if_pos rfl, lI_1]
  unfold s_X10_findHabit zpl zpi at *
  rw [q1] at done ⊢
  simp only [Option.bind_some] at done ⊢
  rw [jn] at done ⊢
  simp only [Option.bind_some] at done ⊢
  cases cj : zjn h nl i 5
  · rw [cj] at done
    simp only [zb2, Bool.false_eq_true, reduceIte, s_X10_findHabit_L32] at done ⊢
    exact done (zroot_alone hi cj) trivial
  · rw [cj] at done
    simp only [zb2, reduceIte, z10] at done ⊢
    have c102 : (zwl (zwl h1 67 45 0) 67 46 1).1 102 i = nI (zls (zAd h nl) 5 i) := q4 i hi
    rw [zbs (zriA hi (by decide) _ 102), c102] at done ⊢
    cases hr : zroot h nl i
    · have hne : ¬ nI (zls (zAd h nl) 5 i) = nI i := fun z => (of_decide_eq_false hr) ((nI_eq (by omega) (by omega)).mp z)
      rw [if_neg hne]
      have G : zGa h nc nl i 0 (zwi (zwl (zwl h1 67 45 0) 67 46 1) 67 43 0) := by
        refine ⟨zSame.wi (h' := zwl (zwl h1 67 45 0) 67 46 1) q2 67 43 0 (by decide) (Or.inr (Or.inr rfl)), ms, fun j hj => ?_, ?_, fun j hj => by omega⟩
        · rw [zwi_ne 102 (by decide)]; exact q4 j hj
        · rw [zwi_self, pk_us]; exact nI_0.symm
      obtain ⟨h3, r1, r2⟩ := m_gather hi hr 5 0 zFU _ (by omega) (zFU_gt (by decide)) G
      obtain ⟨h4, s1, s2, s3, s4, s5⟩ := m_finH hN hi hr r2
      rw [if_neg (by omega), nI_0] at r1
      refine ⟨h4, ?_, s2, s3, s4, s5⟩
      rw [← s1, ← r1]
    · have he : zls (zAd h nl) 5 i = i := of_decide_eq_true hr
      rw [if_pos (by rw [he])] at done ⊢
      exact done hr (by first | trivial | rfl)

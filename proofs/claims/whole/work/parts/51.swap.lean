/-! ===== swap ===== -/
def zsw : Nat → Nat → (Nat → Int32) → (Nat → Int32)
  | 0, _, F => F
  | k + 1, v, F => zsw k ((v * 37 + 101) % 10007) (upd (upd F (k + 1) (F (((v * 37 + 101) % 10007) % (k + 2)))) (((v * 37 + 101) % 10007) % (k + 2)) (F (k + 1)))
theorem zremA {a d : Nat} (ha : a < 2 ^ 31) (h0 : 0 < d) (hd : d < 2 ^ 31) : zrem (nI a) (nI d) = some (nI (a % d)) := by
  unfold zrem
  rw [if_neg (nI_ne0 h0 hd), pk_rem ha h0 hd]
theorem zxor_pos {a b : Nat} (ha : a < 2 ^ 31) (hb : b < 2 ^ 31) : (0 : Int32) ≤ nI a ^^^ nI b := by
  rw [Int32.le_iff_toInt_le, Int32.toInt_zero]
  have h1 : ∀ x : Int32, x.toInt = x.toBitVec.toInt := fun _ => rfl
  have m1 : (nI a).toBitVec.msb = false := by
    rw [BitVec.msb_eq_toInt, ← h1, nI_toInt ha]; simp
  have m2 : (nI b).toBitVec.msb = false := by
    rw [BitVec.msb_eq_toInt, ← h1, nI_toInt hb]; simp
  have m3 : (nI a ^^^ nI b).toBitVec.msb = false := by
    rw [Int32.toBitVec_xor, BitVec.msb_xor, m1, m2]; rfl
  rw [BitVec.msb_eq_toInt] at m3
  rw [h1]
  simpa using m3
theorem e_floorMod {a d : Nat} {h : zHp} (ha : a < 2 ^ 31) (h0 : 0 < d) (hd : d < 2 ^ 31) : s_J9_floorMod_7cf53 (nI a) (nI d) h = some (nI (a % d), h) := by
  unfold s_J9_floorMod_7cf53 s_J9_floorMod_7cf53_L18
  rw [zbs (zremA ha h0 hd), if_pos (zxor_pos ha hd)]
theorem zsw37 (v : Nat) : nI v * (37 : Int32) + 101 = nI (v * 37 + 101) := by
  rw [show (37 : Int32) = nI 37 from by decide, show (101 : Int32) = nI 101 from by decide, pk_mul, nI_add]
theorem zrem7 {a : Nat} (ha : a < 2 ^ 31) : zrem (nI a) 10007 = some (nI (a % 10007)) := zremA (d := 10007) ha (by decide) (by decide)
theorem e_deal : ∀ k v f (h : zHp) (F : Nat → Int32), k ≤ 4 → v ≤ 10006 → k < f → s_X9_dealSeats_L36 f (nI v) (nI k) (zgk h 5 F) = some (zgk h 5 (zsw k v F))
  | 0, v, f + 1, h, F, hk, hv, hf => by simp only [s_X9_dealSeats_L36, show nI 0 < 1 from by decide, reduceIte, zsw]
  | k + 1, v, f + 1, h, F, hk, hv, hf => by
    have hj : ((v * 37 + 101) % 10007) % (k + 2) < 5 := by have := Nat.mod_lt ((v * 37 + 101) % 10007) (show k + 2 > 0 by omega); omega
    have hv' : (v * 37 + 101) % 10007 ≤ 10006 := by omega
    have ih := e_deal k ((v * 37 + 101) % 10007) f h (upd (upd F (k + 1) (F (((v * 37 + 101) % 10007) % (k + 2)))) (((v * 37 + 101) % 10007) % (k + 2)) (F (k + 1))) (by omega) hv' (by omega)
    have e1 : nI (k + 1) + 1 = nI (k + 2) := nI_1 (k + 1)
    have wf := e_floorMod (h := zgk h 5 F) (a := (v * 37 + 101) % 10007) (d := k + 2) (by omega) (by omega) (by omega)
    simp only [s_X9_dealSeats_L36, show ¬ nI (k + 1) < 1 from nI_nlt (b := 1) (by omega) (by omega), reduceIte, zsw37, zrem7 (show v * 37 + 101 < 2 ^ 31 by omega), Option.bind_some, e1, wf, zriA (show k + 1 < 5 by omega) (by decide : 5 < 2 ^ 31), zriA hj (by decide : 5 < 2 ^ 31), zuiA (show k + 1 < 5 by omega) (by decide : 5 < 2 ^ 31), zuiA hj (by decide : 5 < 2 ^ 31), zgk_at, zgk_wi, pk_m1, zsw]
    exact ih
theorem m_deal (i : Int32) : ∀ k v f (h : zHp) (F : Nat → Int32), k ≤ 4 → v ≤ 10006 → k < f → s_X10_swap_L84 f i (nI v) (nI k) (zgk h 105 F) = (zri (zgk h 105 (zsw k v F)) 105 5 i).bind fun v2 => some (v2, zgk h 105 (zsw k v F))
  | 0, v, f + 1, h, F, hk, hv, hf => by simp only [s_X10_swap_L84, show nI 0 ≤ 0 from by decide, reduceIte, zsw]
  | k + 1, v, f + 1, h, F, hk, hv, hf => by
    have hj : ((v * 37 + 101) % 10007) % (k + 2) < 5 := by have := Nat.mod_lt ((v * 37 + 101) % 10007) (show k + 2 > 0 by omega); omega
    have hv' : (v * 37 + 101) % 10007 ≤ 10006 := by omega
    have ih := m_deal i k ((v * 37 + 101) % 10007) f h (upd (upd F (k + 1) (F (((v * 37 + 101) % 10007) % (k + 2)))) (((v * 37 + 101) % 10007) % (k + 2)) (F (k + 1))) (by omega) hv' (by omega)
    have e1 : nI (k + 1) + 1 = nI (k + 2) := nI_1 (k + 1)
    have wr := zremA (a := (v * 37 + 101) % 10007) (d := k + 2) (by omega) (by omega) (by omega)
    simp only [s_X10_swap_L84, nI_nle (show 0 < k + 1 by omega) (show k + 1 < 2 ^ 31 by omega), reduceIte, zsw37, zrem7 (show v * 37 + 101 < 2 ^ 31 by omega), Option.bind_some, e1, wr, zriA (show k + 1 < 5 by omega) (by decide : 5 < 2 ^ 31), zriA hj (by decide : 5 < 2 ^ 31), zuiA (show k + 1 < 5 by omega) (by decide : 5 < 2 ^ 31), zuiA hj (by decide : 5 < 2 ^ 31), zgk_at, zgk_wi, pk_m1, zsw]
    exact ih
theorem zsw_congr {n : Nat} : ∀ k v (F G : Nat → Int32), k < n → (∀ j, j < n → F j = G j) → ∀ j, j < n → zsw k v F j = zsw k v G j
  | 0, v, F, G, hk, hF, j, hj => hF j hj
  | k + 1, v, F, G, hk, hF, j, hj => by
    unfold zsw
    have hm : ((v * 37 + 101) % 10007) % (k + 2) < n := by have := Nat.mod_lt ((v * 37 + 101) % 10007) (show k + 2 > 0 by omega); omega
    refine zsw_congr k _ _ _ (by omega) (fun j hj => ?_) j hj
    rw [hF _ hm, hF (k + 1) hk, zud, zud, zud, zud, hF j hj]
theorem e_dealL2 {n : Nat} (hn : n ≤ 5) (h2 : 2 ≤ n) (v : Int32) : ∀ m i f (h : zHp) (F : Nat → Int32), i + m = n → m < f → (∀ j, j < i → F j = nI j) → ∃ F' : Nat → Int32, (∀ j, j < n → F' j = nI j) ∧ s_X9_dealSeats_L2 f v (nI n) (nI i) (zgk h 5 F) = s_X9_dealSeats_L36 zFU v (nI (n - 1)) (zgk h 5 F')
  | 0, i, f + 1, h, F, hm, hf, hF => by
    obtain rfl : i = n := by omega
    refine ⟨F, hF, ?_⟩
    have e1 : nI i - 1 = nI (i - 1) := by rw [show (1 : Int32) = nI 1 from by decide, pk_sub (by omega)]
    have e5 : (if (5 : Int32) < nI i then some (5, zgk h 5 F) else some (nI i, zgk h 5 F)) = some (nI i, zgk h 5 F) := if_neg (nI_nlt (a := 5) hn (by decide))
    simp only [s_X9_dealSeats_L2, nI_le (Nat.le_refl i) (show i < 2 ^ 31 by omega), reduceIte, s_X9_dealSeats_L25, s_J9_min_7cf53, s_J9_min_7cf53_L10, e5, Option.bind_some, e1]
  | m + 1, i, f + 1, h, F, hm, hf, hF => by
    obtain ⟨F', q1, q2⟩ := e_dealL2 hn h2 v m (i + 1) f h (upd F i (nI i)) (by omega) (by omega) (fun j hj => by
      by_cases e : j = i
      · rw [e, pk_us]
      · rw [pk_un e]; exact hF j (by omega))
    refine ⟨F', q1, ?_⟩
    simp only [s_X9_dealSeats_L2, nI_ge (show i < n by omega) (show n < 2 ^ 31 by omega), reduceIte, show ¬ (5 : Int32) ≤ nI i from nI_ge (b := 5) (by omega) (by decide), zuiA (show i < 5 by omega) (by decide : 5 < 2 ^ 31), Option.bind_some, zgk_wi, nI_1]
    exact q2
theorem m_dealL55 {n : Nat} (hn : n ≤ 5) (h2 : 2 ≤ n) (v p : Int32) : ∀ m i f (h : zHp) (F : Nat → Int32), i + m = n → m < f → (∀ j, j < i → F j = nI j) → ∃ F' : Nat → Int32, (∀ j, j < n → F' j = nI j) ∧ s_X10_swap_L55 f v (nI n) p (nI i) (zgk h 105 F) = s_X10_swap_L84 zFU p v (nI (n - 1)) (zgk h 105 F')
  | 0, i, f + 1, h, F, hm, hf, hF => by
    obtain rfl : i = n := by omega
    refine ⟨F, hF, ?_⟩
    have e1 : nI i - 1 = nI (i - 1) := by rw [show (1 : Int32) = nI 1 from by decide, pk_sub (by omega)]
    simp only [s_X10_swap_L55, nI_le (Nat.le_refl i) (show i < 2 ^ 31 by omega), reduceIte, Option.bind_some, e1]
  | m + 1, i, f + 1, h, F, hm, hf, hF => by
    obtain ⟨F', q1, q2⟩ := m_dealL55 hn h2 v p m (i + 1) f h (upd F i (nI i)) (by omega) (by omega) (fun j hj => by
      by_cases e : j = i
      · rw [e, pk_us]
      · rw [pk_un e]; exact hF j (by omega))
    refine ⟨F', q1, ?_⟩
    simp only [s_X10_swap_L55, nI_ge (show i < n by omega) (show n < 2 ^ 31 by omega), reduceIte, zuiA (show i < 5 by omega) (by decide : 5 < 2 ^ 31), Option.bind_some, zgk_wi, nI_1]
    exact q2
theorem op_swap (a1 a2 a3 : Int32) {h : zHp} (hI : zI h) : zop (s_X9_swap a1 a2 a3) (s_X10_swap a1 a2 a3) h := by
  by_cases c1 : a1 < 0
  · refine zop_r4 hI ?_ ?_
    · simp only [s_X9_swap, s_X9_swap_L9, c1, reduceIte, zbq]
    · simp only [s_X10_swap, s_X10_swap_L9, c1, reduceIte, zbq]
  by_cases c2 : 2 ≤ a2
  · by_cases c3 : (9999 : Int32) < a1
    · refine zop_r6 hI ?_ ?_
      · simp only [s_X9_swap, s_X9_swap_L28, c1, c2, c3, reduceIte, zbq]
      · simp only [s_X10_swap, s_X10_swap_L28, c1, c2, c3, reduceIte, zbq]
    by_cases c4 : a2 ≤ 5
    · obtain ⟨n, n1, n2, rfl⟩ : ∃ p, 2 ≤ p ∧ p ≤ 5 ∧ a2 = nI p := by
        rw [Int32.le_iff_toInt_le] at c2 c4
        exact znat (a := 2) (b := 5) c2 c4
      obtain ⟨v, v1, v2, rfl⟩ : ∃ p, 0 ≤ p ∧ p ≤ 9999 ∧ a1 = nI p := by
        rw [Int32.lt_iff_toInt_lt] at c1 c3
        rw [Int32.toInt_zero] at c1
        have e : (9999 : Int32).toInt = 9999 := by decide
        exact znat (a := 0) (b := 9999) (by omega) (by omega)
      rcases zix a3 (n := n) (by omega) with ⟨hc, hc'⟩ | ⟨i, hi, rfl, i1, i2, i3⟩
      · refine zop_r1 hI ?_ ?_
        · simp only [s_X9_swap, c1, c2, c3, c4, reduceIte, zbq, e_wi0 (b := nI n) hc, Option.bind_some]
        · simp only [s_X10_swap, c1, c2, c3, c4, reduceIte, zbq, e_in0 (b := 0) (c := nI n - 1) hc', Option.bind_some]
      obtain ⟨F, f1, f2⟩ := e_dealL2 n2 n1 (nI v) n 0 zFU h (h.1 5) (by omega) (zFU_gt (by omega)) (fun j hj => absurd hj (Nat.not_lt_zero j))
      rw [zgk_id] at f2
      have f3 := e_deal (n - 1) v zFU h F (by omega) (by omega) (zFU_gt (by omega))
      obtain ⟨G, g1, g2⟩ := m_dealL55 n2 n1 (nI v) (nI i) n 0 zFU (zgk h 5 (zsw (n - 1) v F)) ((zgk h 5 (zsw (n - 1) v F)).1 105) (by omega) (zFU_gt (by omega)) (fun j hj => absurd hj (Nat.not_lt_zero j))
      rw [zgk_id] at g2
      have g3 := m_deal (nI i) (n - 1) v zFU (zgk h 5 (zsw (n - 1) v F)) G (by omega) (by omega) (zFU_gt (by omega))
      have hi5 : i < 5 := by omega
      have heq := zsw_congr (n := n) (n - 1) v F G (by omega) (fun j hj => (f1 j hj).trans (g1 j hj).symm) i hi
      refine zop_ok (r := zsw (n - 1) v F i) (h1 := zgk h 5 (zsw (n - 1) v F)) (h2 := zgk (zgk h 5 (zsw (n - 1) v F)) 105 (zsw (n - 1) v G)) ?_ ?_ ?_
      · have hd : s_X9_dealSeats (nI v) (nI n) h = some (zgk h 5 (zsw (n - 1) v F)) := f2.trans f3
        simp only [s_X9_swap, c1, c2, c3, c4, reduceIte, e_wi1 (b := nI n) i1 i2, Option.bind_some, z10, hd, zriA hi5 (by decide : 5 < 2 ^ 31), zgk_at]
      · have hd := g2.trans g3
        simp only [zriA hi5 (by decide : 5 < 2 ^ 31), zgk_at, Option.bind_some, ← heq] at hd
        simp only [s_X10_swap, c1, c2, c3, c4, reduceIte, e_in1 (b := 0) (c := nI n - 1) i1 i3, Option.bind_some, z10]
        exact hd
      · exact zI_same (zgk_same _ _ (by decide) (by decide)) (zI_same (zgk_same _ _ (by decide) (by decide)) hI)
    · refine zop_r6 hI ?_ ?_
      · simp only [s_X9_swap, s_X9_swap_L28, c1, c2, c3, c4, reduceIte, zbq]
      · simp only [s_X10_swap, s_X10_swap_L28, c1, c2, c3, c4, reduceIte, zbq]
  · refine zop_r4 hI ?_ ?_
    · simp only [s_X9_swap, s_X9_swap_L9, c1, c2, reduceIte, zbq]
    · simp only [s_X10_swap, s_X10_swap_L9, c1, c2, reduceIte, zbq]

/-! ===== rounds: the search, place by place ===== -/
def zOut (h0 : zHp) (nc nl nt t nk n cap m i : Nat) : Prop := ∀ (ρ : Nat → Nat) (c : Nat) (b : Option Nat) (h : zHp), zAs h0 nc nl nt t nk h → zUs h cap ρ → (i < (zSz h0 nc nl nt t nk) → h.1 96 i = -1) → h.1 98 i = nI c → c ≤ 40000000 * i → (∀ u, b = some u → u ≤ 240000000) → ∃ (r : Nat) (h2 : zHp), r ≤ zTm m ∧ (∀ f, s_X10_findRounds_L43 (f + r) (nI n) (zoi b) (nI i) h = s_X10_findRounds_L43 f (nI n) (zoi (zub b (c + zLw (zPp h0 nc nl nt t nk) (zNp h0 nc nl nt t nk) (zFp h0 nc nl nt t nk n) m i ρ))) (nI i + (-1 : Int32)) h2) ∧ zRs (zPp h0 nc nl nt t nk) (zNp h0 nc nl nt t nk) (zFp h0 nc nl nt t nk n) (zSz h0 nc nl nt t nk) m i cap c ρ b h h2
/-- the copy does not hang on what comes behind it -/
def zcpy (h : zHp) (s : Nat) : zHp := zgk h 97 (fun q => if q < s then h.1 96 q else h.1 97 q)
theorem m_cp2 (k43 : Int32 → Int32 → Int32 → zHp → Option (Int32 × zHp)) (a1 a2 a3 : Int32) {s : Nat} (hs : s ≤ 6) {h : zHp} (h32 : h.1 67 32 = nI s) : ∀ m j f, j + m = s → m < f → s_X10_findRounds_L79 k43 f a1 a2 a3 (nI j) (zcpy h j) = k43 a1 a2 (a3 + (-1 : Int32)) (zcpy h s)
  | 0, j, f + 1, hm, hf => by
    obtain rfl : j = s := by omega
    have e : (zcpy h j).1 67 32 = nI j := by unfold zcpy; rw [zgk_ne _ _ (by decide)]; exact h32
    rw [s_X10_findRounds_L79, e, if_pos (nI_le (Nat.le_refl j) (by omega))]
    rfl
  | m + 1, j, f + 1, hm, hf => by
    have ih := m_cp2 k43 a1 a2 a3 hs h32 m (j + 1) f (by omega) (by omega)
    have e : (zcpy h j).1 67 32 = nI s := by unfold zcpy; rw [zgk_ne _ _ (by decide)]; exact h32
    have e96 : (zcpy h j).1 96 j = h.1 96 j := by unfold zcpy; rw [zgk_ne _ _ (by decide)]
    have step : zwi (zcpy h j) 97 j (h.1 96 j) = zcpy h (j + 1) := by
      unfold zcpy
      rw [zgk_wi]
      congr 1
      funext q
      by_cases z : q = j
      · subst z; rw [pk_us, if_pos (by omega)]
      · rw [pk_un z]
        by_cases y : q < j
        · rw [if_pos y, if_pos (by omega)]
        · rw [if_neg y, if_neg (by omega)]
    rw [s_X10_findRounds_L79, e, if_neg (nI_ge (show j < s by omega) (by omega)), zbs (zriA (show j < 6 by omega) (by decide) _ 96), e96, zbs (zuiA (show j < 6 by omega) (by decide) _ 97 _), step, nI_1]
    exact ih
theorem m_cpG {h : zHp} {s : Nat} {n v a3 : Int32} (hs : s ≤ 6) (h32 : h.1 67 32 = nI s) : ∃ G : zHp, zbut 97 h G ∧ (∀ q, q < s → G.1 97 q = h.1 96 q) ∧ ∀ k43 : Int32 → Int32 → Int32 → zHp → Option (Int32 × zHp), s_X10_findRounds_L79 k43 zFU n v a3 0 h = k43 n v (a3 + (-1 : Int32)) G := by
  refine ⟨zcpy h s, zgk_but h 97 _, fun q hq => ?_, fun k43 => ?_⟩
  · unfold zcpy
    rw [zgk_at, if_pos hq]
  · have := m_cp2 k43 n v a3 hs h32 s 0 zFU (by omega) (zFU_gt (by omega))
    have z : zcpy h 0 = h := by
      unfold zcpy
      have : (fun q => if q < 0 then h.1 96 q else h.1 97 q) = h.1 97 := by
        funext q
        rw [if_neg (by omega)]
      rw [this, zgk_id]
    rw [z, nI_0] at this
    exact this
theorem m_base {h0 : zHp} {nc nl nt t nk n cap i : Nat} (hi : i = (zSz h0 nc nl nt t nk)) : zOut h0 nc nl nt t nk n cap 0 i := by
  intro ρ c b h A us h96 h98 hc hb
  have s6 := zSz_le h0 nc nl nt t nk
  have h32 : h.1 67 32 = nI (zSz h0 nc nl nt t nk) := A.2.1
  have c24 : c ≤ 240000000 := by
    have := Nat.mul_le_mul_left 40000000 (show i ≤ 6 by omega)
    omega
  have e0 : zLw (zPp h0 nc nl nt t nk) (zNp h0 nc nl nt t nk) (zFp h0 nc nl nt t nk n) 0 i ρ = 0 := rfl
  have uni : ∃ G : zHp, zbut 97 h G ∧ (∀ q, q < (zSz h0 nc nl nt t nk) → G.1 97 q = h.1 96 q) ∧ ∀ f, s_X10_findRounds_L69 (s_X10_findRounds_L43 f) (nI n) (nI i) h = s_X10_findRounds_L43 f (nI n) (nI c) (nI i + (-1 : Int32)) G := by
    obtain ⟨G, g1, g2, g3⟩ := m_cpG (n := nI n) (v := nI c) (a3 := nI i) s6 h32
    refine ⟨G, g1, g2, fun f => ?_⟩
    unfold s_X10_findRounds_L69
    rw [zbs (zriA (show i < 7 by omega) (by decide) h 98), h98]
    exact g3 (s_X10_findRounds_L43 f)
  obtain ⟨G, G1, G2, G3⟩ := uni
  have first : ∀ f, s_X10_findRounds_L43 (f + 1) (nI n) (zoi b) (nI i) h = s_X10_findRounds_L43 f (nI n) (zoi (zub b (c + zLw (zPp h0 nc nl nt t nk) (zNp h0 nc nl nt t nk) (zFp h0 nc nl nt t nk n) 0 i ρ))) (nI i + (-1 : Int32)) (if zimb b c then G else h) := fun f => by
    rw [s_X10_findRounds_L43, if_neg (nI_pos (by omega)), if_pos (by rw [h32, hi]), e0, Nat.add_zero]
    unfold zub
    cases b with
    | none =>
      rw [if_pos (show zoi none < 0 from zm1lt), G3 f]
      rfl
    | some u =>
      have := hb u rfl
      rw [if_neg (show ¬ zoi (some u) < 0 from nI_pos (by omega)), zbs (zriA (show i < 7 by omega) (by decide) h 98), h98]
      show (if nI u ≤ nI c then _ else _) = _
      by_cases d : c < u
      · rw [if_neg (nI_ge d (by omega)), G3 f]
        have e : zimb (some u) c = true := decide_eq_true d
        rw [if_pos e, if_pos e]
        rfl
      · rw [if_pos (nI_le (show u ≤ c by omega) (by omega))]
        have e : ¬ zimb (some u) c = true := by
          rw [show zimb (some u) c = false from decide_eq_false d]; exact Bool.false_ne_true
        rw [if_neg e, if_neg e]
        rfl
  refine ⟨1, if zimb b c then G else h, Nat.le_refl 1, first, ?_⟩
  unfold zRs
  rw [e0, Nat.add_zero]
  cases d : zimb b c
  · simp only [Bool.false_eq_true, reduceIte]
    exact ⟨zfrm.rf h, us, fun _ _ => by first | trivial | rfl, fun _ _ => by first | trivial | rfl, fun _ _ => by first | trivial | rfl⟩
  · simp only [reduceIte]
    refine ⟨fun k _ k2 _ _ => G1.1 k k2, fun j hj => by rw [G1.1 99 (by decide)]; exact us j hj, fun j _ => by rw [G1.1 96 (by decide)], fun j _ => by rw [G1.1 98 (by decide)], fun j hj => G2 j (by omega), fun j h1 h2 => by omega⟩
theorem m_in {h0 : zHp} {t nc nk nl nt np n cap m i : Nat} (hN : zIN h0 t nc nk nl nt np) (hn : n ≤ 3) (hc1 : 1 ≤ cap) (hc9 : cap ≤ 9) (ec : h0.1 67 30 = nI cap) (hP0 : ∀ p, p < (zSz h0 nc nl nt t nk) → ∀ d, d ≤ 5 → (zPp h0 nc nl nt t nk) p 0 ≤ (zPp h0 nc nl nt t nk) p d) (him : i + (m + 1) = (zSz h0 nc nl nt t nk)) (IH : zOut h0 nc nl nt t nk n cap m (i + 1)) {ρ : Nat → Nat} (hρ : ∀ j, j < 15 → ρ j ≤ cap) {c : Nat} {b : Option Nat} (hb : ∀ u, b = some u → u ≤ 240000000) (hc : c ≤ 40000000 * i) {h : zHp} (A : zAs h0 nc nl nt t nk h) (h98 : h.1 98 i = nI c) : ∀ k x, x + k = 41 → ∀ h1 : zHp, zfrm h h1 → zUs h1 cap ρ → (∀ j, j < i → h1.1 96 j = h.1 96 j) → (∀ j, j ≤ i → h1.1 98 j = h.1 98 j) → zW7 (zPp h0 nc nl nt t nk) (zNp h0 nc nl nt t nk) (zFp h0 nc nl nt t nk n) (zSz h0 nc nl nt t nk) m i ρ (h.1 96) (h.1 97) (zpq (fun x => decide (x = 40) || zokb (zNp h0 nc nl nt t nk) (zFp h0 nc nl nt t nk n) ρ i x) (fun x => c + zvw (zPp h0 nc nl nt t nk) (zNp h0 nc nl nt t nk) (zFp h0 nc nl nt t nk n) m i ρ x) b x) h1 → ∃ (r : Nat) (h2 : zHp), r ≤ k * (zTm m + 1) ∧ (∀ f G, k < G → s_X10_findRounds_L144 (s_X10_findRounds_L43 (f + r)) G (nI n) (zoi (zpb (fun x => decide (x = 40) || zokb (zNp h0 nc nl nt t nk) (zFp h0 nc nl nt t nk n) ρ i x) (fun x => c + zvw (zPp h0 nc nl nt t nk) (zNp h0 nc nl nt t nk) (zFp h0 nc nl nt t nk n) m i ρ x) b x)) (nI i) (nI x) h1 = s_X10_findRounds_L43 f (nI n) (zoi (zpb (fun x => decide (x = 40) || zokb (zNp h0 nc nl nt t nk) (zFp h0 nc nl nt t nk n) ρ i x) (fun x => c + zvw (zPp h0 nc nl nt t nk) (zNp h0 nc nl nt t nk) (zFp h0 nc nl nt t nk n) m i ρ x) b 41)) (nI i + (-1 : Int32)) h2) ∧ zfrm h h2 ∧ zUs h2 cap ρ ∧ (∀ j, j < i → h2.1 96 j = h.1 96 j) ∧ (∀ j, j ≤ i → h2.1 98 j = h.1 98 j) ∧ zW7 (zPp h0 nc nl nt t nk) (zNp h0 nc nl nt t nk) (zFp h0 nc nl nt t nk n) (zSz h0 nc nl nt t nk) m i ρ (h.1 96) (h.1 97) (zpq (fun x => decide (x = 40) || zokb (zNp h0 nc nl nt t nk) (zFp h0 nc nl nt t nk n) ρ i x) (fun x => c + zvw (zPp h0 nc nl nt t nk) (zNp h0 nc nl nt t nk) (zFp h0 nc nl nt t nk n) m i ρ x) b 41) h2
  | 0, x, hx, h1, fr, us, e96, e98, w7 => by
    obtain rfl : x = 41 := by omega
    refine ⟨0, h1, Nat.zero_le _, fun f G hG => ?_, fr, us, e96, e98, w7⟩
    obtain ⟨G, rfl⟩ : ∃ g, G = g + 1 := ⟨G - 1, by omega⟩
    rw [s_X10_findRounds_L144, if_pos (show (40 : Int32) < nI 41 by decide)]
    unfold s_X10_findRounds_L168
    rw [if_neg (show ¬ nI 41 ≤ (40 : Int32) by decide), Nat.add_zero]
  | k + 1, x, hx, h1, fr, us, e96, e98, w7 => by
    have s6 := zSz_le h0 nc nl nt t nk
    have pB : ∀ p, p < (zSz h0 nc nl nt t nk) → ∀ d, d ≤ 5 → (zPp h0 nc nl nt t nk) p d ≤ 40000000 := fun p hp d _ => zPp_le hN hp
    have is : i < (zSz h0 nc nl nt t nk) := by omega
    have c24 : c + 40000000 * (m + 1) ≤ 240000000 := Nat.le_trans (Nat.add_le_add_right hc _) (by
      rw [← Nat.mul_add]
      exact Nat.le_trans (Nat.mul_le_mul_left 40000000 (show i + (m + 1) ≤ 6 by omega)) (by decide))
    have x40 : x ≤ 40 := by omega
    have A1 := zAs_fr A fr
    have may := m_may hN A1 hn hc1 hc9 ec us is x40
    have l40 : ¬ (40 : Int32) < nI x := by
      rw [znlt]; exact nI_le (b := 40) x40 (by decide)
    cases ok : (decide (x = 40) || zokb (zNp h0 nc nl nt t nk) (zFp h0 nc nl nt t nk n) ρ i x)
    · have e1 : zpb (fun x => decide (x = 40) || zokb (zNp h0 nc nl nt t nk) (zFp h0 nc nl nt t nk n) ρ i x) (fun x => c + zvw (zPp h0 nc nl nt t nk) (zNp h0 nc nl nt t nk) (zFp h0 nc nl nt t nk n) m i ρ x) b (x + 1) = zpb (fun x => decide (x = 40) || zokb (zNp h0 nc nl nt t nk) (zFp h0 nc nl nt t nk n) ρ i x) (fun x => c + zvw (zPp h0 nc nl nt t nk) (zNp h0 nc nl nt t nk) (zFp h0 nc nl nt t nk n) m i ρ x) b x := by rw [zpb]; simp only [ok, Bool.false_and, Bool.false_eq_true, reduceIte]
      have e2 : zpq (fun x => decide (x = 40) || zokb (zNp h0 nc nl nt t nk) (zFp h0 nc nl nt t nk n) ρ i x) (fun x => c + zvw (zPp h0 nc nl nt t nk) (zNp h0 nc nl nt t nk) (zFp h0 nc nl nt t nk n) m i ρ x) b (x + 1) = zpq (fun x => decide (x = 40) || zokb (zNp h0 nc nl nt t nk) (zFp h0 nc nl nt t nk n) ρ i x) (fun x => c + zvw (zPp h0 nc nl nt t nk) (zNp h0 nc nl nt t nk) (zFp h0 nc nl nt t nk n) m i ρ x) b x := by rw [zpq]; simp only [ok, Bool.false_and, Bool.false_eq_true, reduceIte]
      obtain ⟨r, h2, r1, r2, r3⟩ := m_in hN hn hc1 hc9 ec hP0 him IH hρ hb hc A h98 k (x + 1) (by omega) h1 fr us e96 e98 (by rw [e2]; exact w7)
      refine ⟨r, h2, Nat.le_trans r1 (Nat.mul_le_mul_right _ (by omega)), fun f G hG => ?_, r3⟩
      obtain ⟨G, rfl⟩ : ∃ g, G = g + 1 := ⟨G - 1, by omega⟩
      rw [s_X10_findRounds_L144, if_neg l40, zbs may, ok, if_pos (show zb2 false = 0 from rfl), nI_1, ← r2 f G (by omega), e1]
    · have okp : x = 40 ∨ zokb (zNp h0 nc nl nt t nk) (zFp h0 nc nl nt t nk n) ρ i x = true := by
        rw [Bool.or_eq_true, decide_eq_true_iff] at ok; exact ok
      have xd : x / 8 ≤ 5 := by omega
      have pd := pB i is (x / 8) xd
      have lB := zLw_bd (N := (zNp h0 nc nl nt t nk)) (F := (zFp h0 nc nl nt t nk n)) pB m (i + 1) (zsub ρ x) (by omega)
      have vx : (fun x => c + zvw (zPp h0 nc nl nt t nk) (zNp h0 nc nl nt t nk) (zFp h0 nc nl nt t nk n) m i ρ x) x = c + (zPp h0 nc nl nt t nk) i (x / 8) + zLw (zPp h0 nc nl nt t nk) (zNp h0 nc nl nt t nk) (zFp h0 nc nl nt t nk n) m (i + 1) (zsub ρ x) := by
        show c + zvw (zPp h0 nc nl nt t nk) (zNp h0 nc nl nt t nk) (zFp h0 nc nl nt t nk n) m i ρ x = _
        unfold zvw
        omega
      have bB : ∀ u, zpb (fun x => decide (x = 40) || zokb (zNp h0 nc nl nt t nk) (zFp h0 nc nl nt t nk n) ρ i x) (fun x => c + zvw (zPp h0 nc nl nt t nk) (zNp h0 nc nl nt t nk) (zFp h0 nc nl nt t nk n) m i ρ x) b x = some u → u ≤ 240000000 := fun u hu => by
        rcases (zpb_inv (ok := (fun x => decide (x = 40) || zokb (zNp h0 nc nl nt t nk) (zFp h0 nc nl nt t nk n) ρ i x)) (v := (fun x => c + zvw (zPp h0 nc nl nt t nk) (zNp h0 nc nl nt t nk) (zFp h0 nc nl nt t nk n) m i ρ x)) (b := b) x).2 with ⟨q1, -⟩ | ⟨y, y1, y2, y3, y4, y5, y6⟩
        · exact hb u (by rw [← q1]; exact hu)
        · rw [y4] at hu
          obtain rfl := Option.some.inj hu
          have a := pB i is (y / 8) (by omega)
          have d := zLw_bd (N := (zNp h0 nc nl nt t nk)) (F := (zFp h0 nc nl nt t nk n)) pB m (i + 1) (zsub ρ y) (by omega)
          show c + zvw (zPp h0 nc nl nt t nk) (zNp h0 nc nl nt t nk) (zFp h0 nc nl nt t nk n) m i ρ y ≤ 240000000
          unfold zvw
          rw [Nat.mul_succ] at c24
          omega
      have e1 : zpb (fun x => decide (x = 40) || zokb (zNp h0 nc nl nt t nk) (zFp h0 nc nl nt t nk n) ρ i x) (fun x => c + zvw (zPp h0 nc nl nt t nk) (zNp h0 nc nl nt t nk) (zFp h0 nc nl nt t nk n) m i ρ x) b (x + 1) = zub (zpb (fun x => decide (x = 40) || zokb (zNp h0 nc nl nt t nk) (zFp h0 nc nl nt t nk n) ρ i x) (fun x => c + zvw (zPp h0 nc nl nt t nk) (zNp h0 nc nl nt t nk) (zFp h0 nc nl nt t nk n) m i ρ x) b x) (c + (zPp h0 nc nl nt t nk) i (x / 8) + zLw (zPp h0 nc nl nt t nk) (zNp h0 nc nl nt t nk) (zFp h0 nc nl nt t nk n) m (i + 1) (zsub ρ x)) := by
        rw [zpb]
        unfold zub
        simp only [ok, Bool.true_and]
        rw [show c + zvw (zPp h0 nc nl nt t nk) (zNp h0 nc nl nt t nk) (zFp h0 nc nl nt t nk n) m i ρ x = c + (zPp h0 nc nl nt t nk) i (x / 8) + zLw (zPp h0 nc nl nt t nk) (zNp h0 nc nl nt t nk) (zFp h0 nc nl nt t nk n) m (i + 1) (zsub ρ x) from vx]
      have e2 : zpq (fun x => decide (x = 40) || zokb (zNp h0 nc nl nt t nk) (zFp h0 nc nl nt t nk n) ρ i x) (fun x => c + zvw (zPp h0 nc nl nt t nk) (zNp h0 nc nl nt t nk) (zFp h0 nc nl nt t nk n) m i ρ x) b (x + 1) = if zimb (zpb (fun x => decide (x = 40) || zokb (zNp h0 nc nl nt t nk) (zFp h0 nc nl nt t nk n) ρ i x) (fun x => c + zvw (zPp h0 nc nl nt t nk) (zNp h0 nc nl nt t nk) (zFp h0 nc nl nt t nk n) m i ρ x) b x) (c + (zPp h0 nc nl nt t nk) i (x / 8) + zLw (zPp h0 nc nl nt t nk) (zNp h0 nc nl nt t nk) (zFp h0 nc nl nt t nk n) m (i + 1) (zsub ρ x)) then some x else zpq (fun x => decide (x = 40) || zokb (zNp h0 nc nl nt t nk) (zFp h0 nc nl nt t nk n) ρ i x) (fun x => c + zvw (zPp h0 nc nl nt t nk) (zNp h0 nc nl nt t nk) (zFp h0 nc nl nt t nk n) m i ρ x) b x := by
        rw [zpq]
        simp only [ok, Bool.true_and]
        rw [show c + zvw (zPp h0 nc nl nt t nk) (zNp h0 nc nl nt t nk) (zFp h0 nc nl nt t nk n) m i ρ x = c + (zPp h0 nc nl nt t nk) i (x / 8) + zLw (zPp h0 nc nl nt t nk) (zNp h0 nc nl nt t nk) (zFp h0 nc nl nt t nk n) m (i + 1) (zsub ρ x) from vx]
      -- going on behind the way x
      have resume : ∀ h9 : zHp, zfrm h h9 → zUs h9 cap (zsub ρ x) → h9.1 96 i = nI x → (∀ j, j < i → h9.1 96 j = h.1 96 j) → (∀ j, j ≤ i → h9.1 98 j = h.1 98 j) → zW7 (zPp h0 nc nl nt t nk) (zNp h0 nc nl nt t nk) (zFp h0 nc nl nt t nk n) (zSz h0 nc nl nt t nk) m i ρ (h.1 96) (h.1 97) (zpq (fun x => decide (x = 40) || zokb (zNp h0 nc nl nt t nk) (zFp h0 nc nl nt t nk n) ρ i x) (fun x => c + zvw (zPp h0 nc nl nt t nk) (zNp h0 nc nl nt t nk) (zFp h0 nc nl nt t nk n) m i ρ x) b (x + 1)) h9 → ∃ (r : Nat) (h2 : zHp), r ≤ k * (zTm m + 1) ∧ (∀ f, s_X10_findRounds_L43 (f + r + 1) (nI n) (zoi (zpb (fun x => decide (x = 40) || zokb (zNp h0 nc nl nt t nk) (zFp h0 nc nl nt t nk n) ρ i x) (fun x => c + zvw (zPp h0 nc nl nt t nk) (zNp h0 nc nl nt t nk) (zFp h0 nc nl nt t nk n) m i ρ x) b (x + 1))) (nI i) h9 = s_X10_findRounds_L43 f (nI n) (zoi (zpb (fun x => decide (x = 40) || zokb (zNp h0 nc nl nt t nk) (zFp h0 nc nl nt t nk n) ρ i x) (fun x => c + zvw (zPp h0 nc nl nt t nk) (zNp h0 nc nl nt t nk) (zFp h0 nc nl nt t nk n) m i ρ x) b 41)) (nI i + (-1 : Int32)) h2) ∧ zfrm h h2 ∧ zUs h2 cap ρ ∧ (∀ j, j < i → h2.1 96 j = h.1 96 j) ∧ (∀ j, j ≤ i → h2.1 98 j = h.1 98 j) ∧ zW7 (zPp h0 nc nl nt t nk) (zNp h0 nc nl nt t nk) (zFp h0 nc nl nt t nk n) (zSz h0 nc nl nt t nk) m i ρ (h.1 96) (h.1 97) (zpq (fun x => decide (x = 40) || zokb (zNp h0 nc nl nt t nk) (zFp h0 nc nl nt t nk n) ρ i x) (fun x => c + zvw (zPp h0 nc nl nt t nk) (zNp h0 nc nl nt t nk) (zFp h0 nc nl nt t nk n) m i ρ x) b 41) h2 := fun h9 f9 u9 w9 a96 a98 w7' => by
        obtain ⟨g, g1, g2, g3⟩ := m_useM u9 hρ okp
        have fg : zfrm h g := fun q q1 q2 q3 q4 => by rw [g2.1 q q4]; exact f9 q q1 q2 q3 q4
        obtain ⟨r, h2, r1, r2, r3⟩ := m_in hN hn hc1 hc9 ec hP0 him IH hρ hb hc A h98 k (x + 1) (by omega) g fg g3 (fun j hj => by rw [g2.1 96 (by decide)]; exact a96 j hj) (fun j hj => by rw [g2.1 98 (by decide)]; exact a98 j hj) (by
          revert w7'
          cases zpq (fun x => decide (x = 40) || zokb (zNp h0 nc nl nt t nk) (zFp h0 nc nl nt t nk n) ρ i x) (fun x => c + zvw (zPp h0 nc nl nt t nk) (zNp h0 nc nl nt t nk) (zFp h0 nc nl nt t nk n) m i ρ x) b (x + 1) with
          | none => intro w j hj; rw [g2.1 97 (by decide)]; exact w j hj
          | some y => intro w; unfold zW7; rw [g2.1 97 (by decide)]; exact w)
        refine ⟨r, h2, r1, fun f => ?_, r3⟩
        have s32 : h9.1 67 32 = nI (zSz h0 nc nl nt t nk) := (zAs_fr A f9).2.1
        have gw : g.1 96 i = nI x := by rw [g2.1 96 (by decide)]; exact w9
        rw [s_X10_findRounds_L43, if_neg (nI_pos (by omega)), if_neg (fun z => by
          rw [s32] at z
          have := (nI_eq (by omega) (by omega)).mp z
          omega), zbs (zriA (show i < 6 by omega) (by decide) h9 96), w9, if_neg (nI_pos (by omega)), zbs (zriA (show i < 6 by omega) (by decide) h9 96), w9, zbs g1]
        unfold s_X10_findRounds_L134
        rw [zbs (zriA (show i < 6 by omega) (by decide) g 96), gw, zbs rfl, nI_1]
        exact r2 f zFU (zFU_gt (by omega))
      obtain ⟨g, g1, g2, g3⟩ := m_useP (h := zwi h1 96 i (nI x)) (cap := cap) (ρ := ρ) (fun j hj => by rw [zwi_ne 99 (by decide)]; exact us j hj) okp
      have c98 : g.1 98 i = nI c := by rw [g2.1 98 (by decide), zwi_ne 98 (by decide), e98 i (Nat.le_refl i)]; exact h98
      have c94 : g.1 94 (6 * i + x / 8) = nI ((zPp h0 nc nl nt t nk) i (x / 8)) := by rw [g2.1 94 (by decide), zwi_ne 94 (by decide)]; exact (A1.2.2.1 i is).2 _ xd
      have c95 : g.1 95 (i + 1) = nI (zlo (zPp h0 nc nl nt t nk) m (i + 1)) := by
        rw [g2.1 95 (by decide), zwi_ne 95 (by decide), A1.2.2.2 (i + 1) (by omega), show (zSz h0 nc nl nt t nk) - (i + 1) = m by omega]
      have loB := zlo_le (N := (zNp h0 nc nl nt t nk)) (F := (zFp h0 nc nl nt t nk n)) hP0 m (i + 1) (zsub ρ x) (by omega)
      generalize hH : zwi g 98 (i + 1) (nI (c + (zPp h0 nc nl nt t nk) i (x / 8))) = H
      have fH : zfrm h H := fun q q1 q2 q3 q4 => by rw [← hH, zwi_ne q q3, g2.1 q q4, zwi_ne q q1]; exact fr q q1 q2 q3 q4
      have H96 : H.1 96 = upd (h1.1 96) i (nI x) := by rw [← hH, zwi_ne 96 (by decide), g2.1 96 (by decide), zwi_self]
      have H97 : H.1 97 = h1.1 97 := by rw [← hH, zwi_ne 97 (by decide), g2.1 97 (by decide), zwi_ne 97 (by decide)]
      have H98 : ∀ j, j ≤ i → H.1 98 j = h.1 98 j := fun j hj => by rw [← hH, zwi_self, pk_un (by omega), g2.1 98 (by decide), zwi_ne 98 (by decide)]; exact e98 j hj
      have H98' : H.1 98 (i + 1) = nI (c + (zPp h0 nc nl nt t nk) i (x / 8)) := by rw [← hH, zwi_self, pk_us]
      have H95 : H.1 95 (i + 1) = nI (zlo (zPp h0 nc nl nt t nk) m (i + 1)) := by rw [← hH, zwi_ne 95 (by decide)]; exact c95
      have HU : zUs H cap (zsub ρ x) := fun j hj => by rw [← hH, zwi_ne 99 (by decide)]; exact g3 j hj
      have H96i : ∀ j, j < i → H.1 96 j = h.1 96 j := fun j hj => by rw [H96, pk_un (by omega)]; exact e96 j hj
      have top : ∀ K : Int32 → Int32 → Int32 → zHp → Option (Int32 × zHp), ∀ G, k + 1 < G → s_X10_findRounds_L144 K G (nI n) (zoi (zpb (fun x => decide (x = 40) || zokb (zNp h0 nc nl nt t nk) (zFp h0 nc nl nt t nk n) ρ i x) (fun x => c + zvw (zPp h0 nc nl nt t nk) (zNp h0 nc nl nt t nk) (zFp h0 nc nl nt t nk n) m i ρ x) b x)) (nI i) (nI x) h1 = (if zoi (zpb (fun x => decide (x = 40) || zokb (zNp h0 nc nl nt t nk) (zFp h0 nc nl nt t nk n) ρ i x) (fun x => c + zvw (zPp h0 nc nl nt t nk) (zNp h0 nc nl nt t nk) (zFp h0 nc nl nt t nk n) m i ρ x) b x) < 0 then s_X10_findRounds_L251 K (nI n) (zoi (zpb (fun x => decide (x = 40) || zokb (zNp h0 nc nl nt t nk) (zFp h0 nc nl nt t nk n) ρ i x) (fun x => c + zvw (zPp h0 nc nl nt t nk) (zNp h0 nc nl nt t nk) (zFp h0 nc nl nt t nk n) m i ρ x) b x)) (nI i) H else if zoi (zpb (fun x => decide (x = 40) || zokb (zNp h0 nc nl nt t nk) (zFp h0 nc nl nt t nk n) ρ i x) (fun x => c + zvw (zPp h0 nc nl nt t nk) (zNp h0 nc nl nt t nk) (zFp h0 nc nl nt t nk n) m i ρ x) b x) ≤ nI (c + (zPp h0 nc nl nt t nk) i (x / 8) + zlo (zPp h0 nc nl nt t nk) m (i + 1)) then K (nI n) (zoi (zpb (fun x => decide (x = 40) || zokb (zNp h0 nc nl nt t nk) (zFp h0 nc nl nt t nk n) ρ i x) (fun x => c + zvw (zPp h0 nc nl nt t nk) (zNp h0 nc nl nt t nk) (zFp h0 nc nl nt t nk n) m i ρ x) b x)) (nI i) H else s_X10_findRounds_L251 K (nI n) (zoi (zpb (fun x => decide (x = 40) || zokb (zNp h0 nc nl nt t nk) (zFp h0 nc nl nt t nk n) ρ i x) (fun x => c + zvw (zPp h0 nc nl nt t nk) (zNp h0 nc nl nt t nk) (zFp h0 nc nl nt t nk n) m i ρ x) b x)) (nI i) H) := fun K G hG => by
        obtain ⟨G, rfl⟩ : ∃ g, G = g + 1 := ⟨G - 1, by omega⟩
        rw [s_X10_findRounds_L144, if_neg l40, zbs may, ok, if_neg (show ¬ zb2 true = 0 from z10)]
        unfold s_X10_findRounds_L168 s_X10_findRounds_L267
        rw [if_pos (show nI x ≤ (40 : Int32) from nI_le (b := 40) x40 (by decide)), zbs (zuiA (show i < 6 by omega) (by decide) h1 96 _), zbs g1, zbs (zriA (show i < 7 by omega) (by decide) g 98), c98, zbs (show zdiv (nI x) 8 = some (nI (x / 8)) from zdivA (d := 8) (by omega) (by decide) (by decide)), zix6', zbs (zriA (show 6 * i + x / 8 < 36 by omega) (by decide) g 94), c94, nI_1, nI_add, zbs (zuiA (show i + 1 < 7 by omega) (by decide) g 98 _), hH, zbs (zriA (show i + 1 < 7 by omega) (by decide) H 98), zbs (zriA (show i + 1 < 7 by omega) (by decide) H 95), H98', H95, nI_add]
      have enter : ∃ (r : Nat) (h2 : zHp), r ≤ (k + 1) * (zTm m + 1) ∧ (∀ f, s_X10_findRounds_L251 (s_X10_findRounds_L43 (f + r)) (nI n) (zoi (zpb (fun x => decide (x = 40) || zokb (zNp h0 nc nl nt t nk) (zFp h0 nc nl nt t nk n) ρ i x) (fun x => c + zvw (zPp h0 nc nl nt t nk) (zNp h0 nc nl nt t nk) (zFp h0 nc nl nt t nk n) m i ρ x) b x)) (nI i) H = s_X10_findRounds_L43 f (nI n) (zoi (zpb (fun x => decide (x = 40) || zokb (zNp h0 nc nl nt t nk) (zFp h0 nc nl nt t nk n) ρ i x) (fun x => c + zvw (zPp h0 nc nl nt t nk) (zNp h0 nc nl nt t nk) (zFp h0 nc nl nt t nk n) m i ρ x) b 41)) (nI i + (-1 : Int32)) h2) ∧ zfrm h h2 ∧ zUs h2 cap ρ ∧ (∀ j, j < i → h2.1 96 j = h.1 96 j) ∧ (∀ j, j ≤ i → h2.1 98 j = h.1 98 j) ∧ zW7 (zPp h0 nc nl nt t nk) (zNp h0 nc nl nt t nk) (zFp h0 nc nl nt t nk n) (zSz h0 nc nl nt t nk) m i ρ (h.1 96) (h.1 97) (zpq (fun x => decide (x = 40) || zokb (zNp h0 nc nl nt t nk) (zFp h0 nc nl nt t nk n) ρ i x) (fun x => c + zvw (zPp h0 nc nl nt t nk) (zNp h0 nc nl nt t nk) (zFp h0 nc nl nt t nk n) m i ρ x) b 41) h2 := by
        obtain ⟨Q, q1, q2, q3⟩ : ∃ Q : zHp, zbut 96 H Q ∧ (∀ j, j ≤ i → Q.1 96 j = H.1 96 j) ∧ (i + 1 < (zSz h0 nc nl nt t nk) → Q.1 96 (i + 1) = -1) ∧ ∀ K : Int32 → Int32 → Int32 → zHp → Option (Int32 × zHp), s_X10_findRounds_L251 K (nI n) (zoi (zpb (fun x => decide (x = 40) || zokb (zNp h0 nc nl nt t nk) (zFp h0 nc nl nt t nk n) ρ i x) (fun x => c + zvw (zPp h0 nc nl nt t nk) (zNp h0 nc nl nt t nk) (zFp h0 nc nl nt t nk n) m i ρ x) b x)) (nI i) H = K (nI n) (zoi (zpb (fun x => decide (x = 40) || zokb (zNp h0 nc nl nt t nk) (zFp h0 nc nl nt t nk n) ρ i x) (fun x => c + zvw (zPp h0 nc nl nt t nk) (zNp h0 nc nl nt t nk) (zFp h0 nc nl nt t nk n) m i ρ x) b x)) (nI (i + 1)) Q := by
          by_cases d : 6 ≤ i + 1
          · refine ⟨H, zbut.rf 96 H, fun _ _ => rfl, fun z => by omega, fun K => ?_⟩
            unfold s_X10_findRounds_L251 s_X10_findRounds_L267
            rw [nI_1, if_pos (show (6 : Int32) ≤ nI (i + 1) from nI_le (a := 6) d (by omega))]
          · refine ⟨zwi H 96 (i + 1) (-1), (zbut.rf 96 H).wi _ _, fun j hj => by rw [zwi_self, pk_un (by omega)], fun _ => by rw [zwi_self, pk_us], fun K => ?_⟩
            unfold s_X10_findRounds_L251 s_X10_findRounds_L267
            rw [nI_1, if_neg (show ¬ (6 : Int32) ≤ nI (i + 1) from nI_ge (b := 6) (by omega) (by decide)), zbs (zuiA (show i + 1 < 6 by omega) (by decide) H 96 _)]
        have fQ : zfrm h Q := fun q x1 x2 x3 x4 => by rw [q1.1 q x1]; exact fH q x1 x2 x3 x4
        obtain ⟨r, h9, r1, r2, r3⟩ := IH (zsub ρ x) (c + (zPp h0 nc nl nt t nk) i (x / 8)) (zpb (fun x => decide (x = 40) || zokb (zNp h0 nc nl nt t nk) (zFp h0 nc nl nt t nk n) ρ i x) (fun x => c + zvw (zPp h0 nc nl nt t nk) (zNp h0 nc nl nt t nk) (zFp h0 nc nl nt t nk n) m i ρ x) b x) Q (zAs_fr A fQ) (fun j hj => by rw [q1.1 99 (by decide)]; exact HU j hj) q3.1 (by rw [q1.1 98 (by decide)]; exact H98') (by rw [Nat.mul_succ]; omega) bB
        obtain ⟨z1, z2, z3, z4, z5⟩ := r3
        rw [← e1] at r2
        have fQ9 : zfrm h h9 := fQ.tr z1
        obtain ⟨r', h2, s1, s2, s3⟩ := resume h9 fQ9 z2 (by rw [z3 i (by omega), q2 i (Nat.le_refl i), H96, pk_us]) (fun j hj => by rw [z3 j (by omega), q2 j (by omega)]; exact H96i j hj) (fun j hj => by rw [z4 j (by omega), q1.1 98 (by decide)]; exact H98 j hj) (by
          rw [e2]
          by_cases d : zimb (zpb (fun x => decide (x = 40) || zokb (zNp h0 nc nl nt t nk) (zFp h0 nc nl nt t nk n) ρ i x) (fun x => c + zvw (zPp h0 nc nl nt t nk) (zNp h0 nc nl nt t nk) (zFp h0 nc nl nt t nk n) m i ρ x) b x) (c + (zPp h0 nc nl nt t nk) i (x / 8) + zLw (zPp h0 nc nl nt t nk) (zNp h0 nc nl nt t nk) (zFp h0 nc nl nt t nk n) m (i + 1) (zsub ρ x)) = true
          · rw [if_pos d] at z5 ⊢
            refine ⟨fun j hj => ?_, ?_, z5.2⟩
            · rw [z5.1 j (by omega), q2 j (by omega)]; exact H96i j hj
            · rw [z5.1 i (by omega), q2 i (Nat.le_refl i), H96, pk_us]
          · rw [if_neg d] at z5 ⊢
            have e97 : ∀ j, j < (zSz h0 nc nl nt t nk) → h9.1 97 j = h1.1 97 j := fun j hj => by rw [z5 j hj, q1.1 97 (by decide), H97]
            revert w7
            cases zpq (fun x => decide (x = 40) || zokb (zNp h0 nc nl nt t nk) (zFp h0 nc nl nt t nk n) ρ i x) (fun x => c + zvw (zPp h0 nc nl nt t nk) (zNp h0 nc nl nt t nk) (zFp h0 nc nl nt t nk n) m i ρ x) b x with
            | none => intro w j hj; rw [e97 j hj]; exact w j hj
            | some y =>
              intro w
              exact ⟨fun j hj => by rw [e97 j (by omega)]; exact w.1 j hj, by rw [e97 i is]; exact w.2.1, fun j h1 h2 => by rw [e97 j h2]; exact w.2.2 j h1 h2⟩)
        refine ⟨r' + 1 + r, h2, ?_, fun f => ?_, s3⟩
        · rw [Nat.succ_mul]; omega
        · rw [q3.2, show f + (r' + 1 + r) = (f + r' + 1) + r by omega, r2, zpre1, s2 f]
      cases eb : zpb (fun x => decide (x = 40) || zokb (zNp h0 nc nl nt t nk) (zFp h0 nc nl nt t nk n) ρ i x) (fun x => c + zvw (zPp h0 nc nl nt t nk) (zNp h0 nc nl nt t nk) (zFp h0 nc nl nt t nk n) m i ρ x) b x with
      | none =>
        obtain ⟨r, h2, r1, r2, r3⟩ := enter
        refine ⟨r, h2, r1, fun f G hG => ?_, r3⟩
        have tt := top (s_X10_findRounds_L43 (f + r)) G hG
        rw [eb] at tt r2
        rw [tt, if_pos (show zoi none < 0 from zm1lt), r2 f]
      | some u =>
        have u24 := bB u eb
        by_cases d : u ≤ c + (zPp h0 nc nl nt t nk) i (x / 8) + zlo (zPp h0 nc nl nt t nk) m (i + 1)
        · have im : zimb (zpb (fun x => decide (x = 40) || zokb (zNp h0 nc nl nt t nk) (zFp h0 nc nl nt t nk n) ρ i x) (fun x => c + zvw (zPp h0 nc nl nt t nk) (zNp h0 nc nl nt t nk) (zFp h0 nc nl nt t nk n) m i ρ x) b x) (c + (zPp h0 nc nl nt t nk) i (x / 8) + zLw (zPp h0 nc nl nt t nk) (zNp h0 nc nl nt t nk) (zFp h0 nc nl nt t nk n) m (i + 1) (zsub ρ x)) = false := by
            rw [eb]; exact decide_eq_false (by omega)
          have e1' : zpb (fun x => decide (x = 40) || zokb (zNp h0 nc nl nt t nk) (zFp h0 nc nl nt t nk n) ρ i x) (fun x => c + zvw (zPp h0 nc nl nt t nk) (zNp h0 nc nl nt t nk) (zFp h0 nc nl nt t nk n) m i ρ x) b (x + 1) = some u := by rw [e1]; unfold zub; rw [im, eb]; rfl
          obtain ⟨r, h2, r1, r2, r3⟩ := resume H fH HU (by rw [H96, pk_us]) H96i H98 (by
            rw [e2, im]
            simp only [Bool.false_eq_true, reduceIte]
            revert w7
            cases zpq (fun x => decide (x = 40) || zokb (zNp h0 nc nl nt t nk) (zFp h0 nc nl nt t nk n) ρ i x) (fun x => c + zvw (zPp h0 nc nl nt t nk) (zNp h0 nc nl nt t nk) (zFp h0 nc nl nt t nk n) m i ρ x) b x with
            | none => intro w j hj; rw [H97]; exact w j hj
            | some y => intro w; unfold zW7; rw [H97]; exact w)
          refine ⟨r + 1, h2, by rw [Nat.succ_mul]; omega, fun f G hG => ?_, r3⟩
          have tt := top (s_X10_findRounds_L43 (f + (r + 1))) G hG
          rw [eb] at tt
          rw [tt, if_neg (show ¬ zoi (some u) < 0 from nI_pos (by omega)), show zoi (some u) = nI u from rfl, if_pos (nI_le d (by omega))]
          have := r2 f
          rw [e1'] at this
          exact this
        · obtain ⟨r, h2, r1, r2, r3⟩ := enter
          refine ⟨r, h2, r1, fun f G hG => ?_, r3⟩
          have tt := top (s_X10_findRounds_L43 (f + r)) G hG
          rw [eb] at tt r2
          rw [tt, if_neg (show ¬ zoi (some u) < 0 from nI_pos (by omega))]
          rw [if_neg (show ¬ zoi (some u) ≤ nI (c + (zPp h0 nc nl nt t nk) i (x / 8) + zlo (zPp h0 nc nl nt t nk) m (i + 1)) from nI_ge (show c + (zPp h0 nc nl nt t nk) i (x / 8) + zlo (zPp h0 nc nl nt t nk) m (i + 1) < u by omega) (by omega)), r2 f]

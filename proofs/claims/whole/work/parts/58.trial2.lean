/-! ===== whether stars helped: dealing, and the reference ===== -/
theorem e_deal1 {b : Nat → Nat} : ∀ n s w p f (h : zHp), s + n = 6 → n < f → w < 2 ^ 31 → (∀ j, j < n → h.1 63 j = nI (b (p j))) → ∃ h1 : zHp, s_X7_deal_L30 f (nI w) (nI s) h = some h1 ∧ (∀ k, k ≠ 63 → k ≠ 64 → h1.1 k = h.1 k) ∧ h1.2 = h.2 ∧ (∀ i, i < s → h1.1 64 i = h.1 64 i) ∧ (∀ i, i < n → h1.1 64 (s + i) = nI (b ((zdc n w p).getD i 0)))
  | 0, s, w, p, f + 1, h, hm, hf, hw, hp => by
    obtain rfl : s = 6 := by omega
    refine ⟨h, ?_, fun _ _ _ => rfl, rfl, fun _ _ => rfl, fun i hi => by omega⟩
    simp only [s_X7_deal_L30, z66, reduceIte]
  | n + 1, s, w, p, f + 1, h, hm, hf, hw, hp => by
    have hd : w % (n + 1) < n + 1 := Nat.mod_lt _ (by omega)
    have hq : w / (n + 1) ≤ w := Nat.div_le_self _ _
    have e6 : (6 : Int32) - nI s = nI (n + 1) := by rw [show (6 : Int32) = nI 6 from by decide, pk_sub (by omega)]; congr 1; omega
    obtain ⟨h1, q1, q2, q3, q4, q5⟩ := e_deal1 n (s + 1) (w / (n + 1)) (znp p (w % (n + 1)) (p n)) f (zwi (zwi h 64 s (nI (b (p (w % (n + 1)))))) 63 (w % (n + 1)) (nI (b (p n)))) (by omega) (by omega) (by omega) (fun j hj => by
      rw [zwi_self, zwi_ne 63 (by decide)]
      unfold znp
      by_cases e : j = w % (n + 1)
      · rw [if_pos e, e, pk_us]
      · rw [if_neg e, pk_un e]; exact hp j (by omega))
    refine ⟨h1, ?_, fun k k1 k2 => ?_, q3, fun i hi => ?_, fun i hi => ?_⟩
    · simp only [s_X7_deal_L30, z6le (show s < 6 by omega), reduceIte, Option.bind_some, e6, e_floorMod hw (show 0 < n + 1 by omega) (show n + 1 < 2 ^ 31 by omega), zdivA hw (show 0 < n + 1 by omega) (show n + 1 < 2 ^ 31 by omega), zriA (show w % (n + 1) < 6 by omega) (by decide), zuiA (show s < 6 by omega) (by decide), nI_pred, zriA (show n < 6 by omega) (by decide), zuiA (show w % (n + 1) < 6 by omega) (by decide), hp (w % (n + 1)) hd, zwi_ne (k := 64) 63 (by decide), hp n (by omega), nI_1]
      exact q1
    · rw [q2 k k1 k2, zwi_ne k k1, zwi_ne k k2]
    · rw [q4 i (by omega), zwi_ne 64 (by decide), zwi_self, pk_un (by omega)]
    · match i with
      | 0 =>
        rw [Nat.add_zero, q4 s (by omega), zwi_ne 64 (by decide), zwi_self, pk_us]
        rfl
      | i + 1 =>
        have := q5 i (by omega)
        rw [show s + (i + 1) = s + 1 + i from by omega, this]
        rfl
theorem e_deal2 {b : Nat → Nat} (a1 : Int32) : ∀ m j f (h : zHp), j + m = 6 → m < f → (∀ i, i < 6 → h.1 60 i = nI (b i)) → (∀ i, i < j → h.1 63 i = nI (b i)) → ∃ h1 : zHp, s_X7_deal_L2 f a1 (nI j) h = s_X7_deal_L30 zFU a1 0 h1 ∧ (∀ k, k ≠ 63 → h1.1 k = h.1 k) ∧ h1.2 = h.2 ∧ (∀ i, i < 6 → h1.1 63 i = nI (b i))
  | 0, j, f + 1, h, hm, hf, hb, hp => by
    obtain rfl : j = 6 := by omega
    refine ⟨h, ?_, fun _ _ => rfl, rfl, hp⟩
    simp only [s_X7_deal_L2, z66, reduceIte]
  | m + 1, j, f + 1, h, hm, hf, hb, hp => by
    obtain ⟨h1, q1, q2, q3, q4⟩ := e_deal2 (b := b) a1 m (j + 1) f (zwi h 63 j (nI (b j))) (by omega) (by omega) (fun i hi => by rw [zwi_ne 60 (by decide)]; exact hb i hi) (fun i hi => by
      rw [zwi_self]
      by_cases e : i = j
      · subst e; rw [pk_us]
      · rw [pk_un e]; exact hp i (by omega))
    refine ⟨h1, ?_, fun k hk => by rw [q2 k hk, zwi_ne k hk], q3, q4⟩
    simp only [s_X7_deal_L2, z6le (show j < 6 by omega), reduceIte, zriA (show j < 6 by omega) (by decide), hb j (by omega), Option.bind_some, zuiA (show j < 6 by omega) (by decide), nI_1]
    exact q1
theorem e_dealT {b : Nat → Nat} {h : zHp} {w : Nat} (hw : w < 720) (hb : ∀ i, i < 6 → h.1 60 i = nI (b i)) : ∃ h1 : zHp, s_X7_deal (nI w) h = some h1 ∧ (∀ k, k ≠ 63 → k ≠ 64 → h1.1 k = h.1 k) ∧ h1.2 = h.2 ∧ ∀ s, s < 6 → h1.1 64 s = nI (b ((zdc 6 w id).getD s 0)) := by
  obtain ⟨h1, q1, q2, q3, q4⟩ := e_deal2 (b := b) (nI w) 6 0 zFU h (by omega) (zFU_gt (by decide)) hb (fun i hi => by omega)
  obtain ⟨h2, r1, r2, r3, r4, r5⟩ := e_deal1 (b := b) 6 0 w id zFU h1 (by omega) (zFU_gt (by decide)) (by omega) q4
  rw [nI_0] at q1 r1
  refine ⟨h2, ?_, fun k k1 k2 => by rw [r2 k k1 k2, q2 k k1], by rw [r3, q3], fun s hs => ?_⟩
  · unfold s_X7_deal
    rw [q1, r1]
  · have := r5 s hs
    rw [Nat.zero_add] at this
    exact this
theorem zgetD {l : List Nat} {j : Nat} (hj : j < l.length) : l.getD j 0 ∈ l := by
  rw [List.getD_eq_getElem?_getD, List.getElem?_eq_getElem hj, Option.getD_some]
  exact List.getElem_mem hj
theorem zTC_same {h h' : zHp} {c b : Nat → Nat} (H : zTC h c b) (e0 : h'.1 60 = h.1 60) (e1 : h'.1 61 = h.1 61) : zTC h' c b := by
  unfold zTC
  rw [e0, e1]
  exact H
/-- in how many ways the effect is no greater -/
def zWay (c b : Nat → Nat) (N : Nat) (D : Nat → Nat) : Bool := decide (zef c (fun s => b (D s)) N 6 ≤ zef c b N 6)
theorem e_ways1 {c b : Nat → Nat} {N : Nat} (hN : N = zcn (fun i => znv (b i)) 6) : ∀ m w f (h : zHp), w + m = 720 → m < f → zTC h c b → zRi h c → ∃ h1 : zHp, s_X7_waysNoGreater_L18 f (lI (zef c b N 6)) (nI (zcn (fun w => zWay c b N (fun s => (zdc 6 w id).getD s 0)) w)) (nI w) h = some (nI (zcn (fun w => zWay c b N (fun s => (zdc 6 w id).getD s 0)) 720), h1) ∧ (∀ k, k ≠ 63 → k ≠ 64 → h1.1 k = h.1 k)
  | 0, w, f + 1, h, hm, hf, H, hR => by
    obtain rfl : w = 720 := by omega
    refine ⟨h, ?_, fun _ _ _ => rfl⟩
    simp only [s_X7_waysNoGreater_L18, show (720 : Int32) ≤ nI 720 from by decide, reduceIte]
  | m + 1, w, f + 1, h, hm, hf, H, hR => by
    obtain ⟨h1, q1, q2, q3, q4⟩ := e_dealT (b := b) (h := h) (show w < 720 by omega) (fun i hi => (H.1 i hi).1)
    have H1 : zTC h1 c b := zTC_same H (q2 60 (by decide) (by decide)) (q2 61 (by decide) (by decide))
    have hR1 : zRi h1 c := by unfold zRi; rw [q3]; exact hR
    have hl := zperm6 (zdc_ok w (by omega))
    have hD : ∀ j, j < 6 → h1.1 64 j = nI (b ((zdc 6 w id).getD j 0)) ∧ b ((zdc 6 w id).getD j 0) ≤ 12 := fun j hj => ⟨q4 j hj, (H.1 _ (hl.2 _ (zgetD (by rw [hl.1]; exact hj)))).2⟩
    have ef := e_effby_64 H1 hD hR1
    rw [← hN] at ef
    have cr : ∀ r, r < 72 → c r ≤ 999 := fun r hr => (H.2 r hr).2
    have hN6 : N ≤ 6 := by rw [hN]; exact zcn_le _ 6
    have b1 : zB (zef c b N 6) := zBna (zef_rng cr hN6 6 (Nat.le_refl 6)) (by decide)
    have b2 : zB (zef c (fun j => b ((zdc 6 w id).getD j 0)) N 6) := zBna (zef_rng cr hN6 6 (Nat.le_refl 6)) (by decide)
    obtain ⟨h2, r1, r2⟩ := e_ways1 hN m (w + 1) f h1 (by omega) (by omega) H1 hR1
    refine ⟨h2, ?_, fun k k1 k2 => by rw [r2 k k1 k2, q2 k k1 k2]⟩
    rw [zcn] at r1
    have cw : ¬ (720 : Int32) ≤ nI w := nI_ge (b := 720) (by omega) (by decide)
    simp only [s_X7_waysNoGreater_L18, s_X7_waysNoGreater_L48, cw, reduceIte, q1, Option.bind_some, ef, lI_lt b1 b2, nI_1]
    by_cases e : zef c (fun s => b ((zdc 6 w id).getD s 0)) N 6 ≤ zef c b N 6
    · rw [show zWay c b N (fun s => (zdc 6 w id).getD s 0) = true from decide_eq_true e] at r1
      simp only [reduceIte] at r1
      rw [if_neg (by omega)]
      exact r1
    · rw [show zWay c b N (fun s => (zdc 6 w id).getD s 0) = false from decide_eq_false e] at r1
      simp only [Bool.false_eq_true, reduceIte, Nat.add_zero] at r1
      rw [if_pos (by omega)]
      exact r1
theorem e_ways {c b : Nat → Nat} {h : zHp} (H : zTC h c b) : ∃ h1 : zHp, s_X7_waysNoGreater h = some (nI (zcn (fun w => zWay c b (zcn (fun i => znv (b i)) 6) (fun s => (zdc 6 w id).getD s 0)) 720), h1) ∧ (∀ k, k ≠ 63 → k ≠ 64 → h1.1 k = h.1 k) := by
  obtain ⟨g, g1, g2, g3⟩ := e_rises H
  have H' : zTC g c b := zTC_same H (by rw [g2]) (by rw [g2])
  have ef := e_effby_60 H' H'.1 g3
  obtain ⟨h2, r1, r2⟩ := e_ways1 (c := c) (b := b) rfl 720 0 zFU g (by omega) (zFU_gt (by decide)) H' g3
  refine ⟨h2, ?_, fun k k1 k2 => by rw [r2 k k1 k2, g2]⟩
  simp only [s_X7_waysNoGreater, g1, Option.bind_some, ef]
  rw [nI_0] at r1
  exact r1
/-! the reference -/
def zTM (h : zHp) (c D : Nat → Nat) : Prop := (∀ j, j < 6 → h.1 115 j = nI (D j) ∧ D j ≤ 12) ∧ (∀ r, r < 72 → h.1 114 r = nI (c r) ∧ c r ≤ 999)
theorem zTM_eq {h h' : zHp} {c D : Nat → Nat} (H : zTM h c D) (e : h'.1 = h.1) : zTM h' c D := by
  unfold zTM
  rw [e]
  exact H
theorem m_cases0 {h : zHp} {c D : Nat → Nat} (H : zTM h c D) {s mo : Nat} (hs : s < 6) (hmo : mo ≤ 12) : ∀ m k f, k + m = mo → m < f → s_X10_casesOf_L14 f (nI s) (nI mo) 0 (lI (zca c s k)) (nI k) h = some (lI (zca c s mo), h)
  | 0, k, f + 1, hm, hf => by
    obtain rfl : k = mo := by omega
    simp only [s_X10_casesOf_L14, s_X10_casesOf_L26, reduceIte, nI_le (Nat.le_refl k) (show k < 2 ^ 31 by omega)]
  | m + 1, k, f + 1, hm, hf => by
    have ih := m_cases0 H hs hmo m (k + 1) f (by omega) (by omega)
    obtain ⟨c1, c2⟩ := H.2 (12 * s + k) (by omega)
    have e12 : (12 : Int32) * nI s + nI k = nI (12 * s + k) := zix12.2
    simp only [s_X10_casesOf_L14, s_X10_casesOf_L26, reduceIte, nI_ge (show k < mo by omega) (show mo < 2 ^ 31 by omega), e12, zriA (show 12 * s + k < 72 by omega) (by decide), c1, Option.bind_some, lI_nI (show c (12 * s + k) < 2 ^ 31 by omega), lI_add, nI_1]
    exact ih
theorem m_cases1 {h : zHp} {c D : Nat → Nat} (H : zTM h c D) {s mo : Nat} (hs : s < 6) : ∀ m k f, k + m = 12 → m < f → s_X10_casesOf_L14 f (nI s) (nI mo) 1 (lI (zca c s k - zca c s mo)) (nI k) h = some (lI (zca c s 12 - zca c s mo), h)
  | 0, k, f + 1, hm, hf => by
    obtain rfl : k = 12 := by omega
    simp only [s_X10_casesOf_L14, s_X10_casesOf_L26, reduceIte, z10, z1212]
  | m + 1, k, f + 1, hm, hf => by
    have ih := m_cases1 H (mo := mo) hs m (k + 1) f (by omega) (by omega)
    obtain ⟨c1, c2⟩ := H.2 (12 * s + k) (by omega)
    have e12 : (12 : Int32) * nI s + nI k = nI (12 * s + k) := zix12.2
    simp only [s_X10_casesOf_L14, s_X10_casesOf_L26, reduceIte, z10, z12le (show k < 12 by omega), e12, zriA (show 12 * s + k < 72 by omega) (by decide), c1, Option.bind_some, lI_nI (show c (12 * s + k) < 2 ^ 31 by omega), lI_add, nI_1]
    rw [show zca c s (k + 1) - zca c s mo = zca c s k - zca c s mo + (c (12 * s + k) : Nat) from by rw [zca]; omega] at ih
    exact ih
theorem m_ahead {h : zHp} {c D : Nat → Nat} (H : zTM h c D) {s mo : Nat} (hs : s < 6) (hmo : mo ≤ 12) : s_X10_casesOf (nI s) (nI mo) 0 h = some (lI (zca c s mo), h) := by
  have q := m_cases0 H hs hmo mo 0 zFU (by omega) (zFU_gt (by omega))
  rw [show lI (zca c s 0) = 0 from lI_0, nI_0] at q
  unfold s_X10_casesOf s_X10_casesOf_L12
  rw [if_pos rfl]
  exact q
theorem m_on {h : zHp} {c D : Nat → Nat} (H : zTM h c D) {s mo : Nat} (hs : s < 6) (hmo : mo ≤ 12) : s_X10_casesOf (nI s) (nI mo) 1 h = some (lI (zca c s 12 - zca c s mo), h) := by
  have q := m_cases1 H (mo := mo) hs (12 - mo) mo zFU (by omega) (zFU_gt (by omega))
  rw [Int.sub_self, lI_0] at q
  unfold s_X10_casesOf s_X10_casesOf_L12
  rw [if_neg z10]
  exact q
/-- the reference's fraction is X by L in its lowest terms -/
def zst2 (h : zHp) (X L : Int) : Prop := h.2 67 59 = lI (X.tdiv (Int.gcd X L)) ∧ h.2 67 60 = lI (L.tdiv (Int.gcd X L))
theorem zl_a {h : zHp} {y : Int64} : (zwl h 67 60 y).2 67 59 = h.2 67 59 := by rw [zwl_self, pk_uLn (by decide)]
theorem zl_b {h : zHp} {y : Int64} : (zwl h 67 59 y).2 67 60 = h.2 67 60 := by rw [zwl_self, pk_uLn (by decide)]
theorem zl_c {h : zHp} {y : Int64} : (zwl h 67 59 y).2 67 59 = y := by rw [zwl_self, pk_uLs]
theorem zl_d {h : zHp} {y : Int64} : (zwl h 67 60 y).2 67 60 = y := by rw [zwl_self, pk_uLs]
theorem zlow {X L : Int} (hL : 0 < L) : ∃ g t l : Int, 0 < g ∧ X = g * t ∧ L = g * l ∧ X.tdiv (Int.gcd X L) = t ∧ L.tdiv (Int.gcd X L) = l ∧ 0 < l ∧ l ≤ L ∧ t.natAbs ≤ X.natAbs := by
  have g2 : 0 < Int.gcd X L := Int.gcd_pos_of_ne_zero_right X (by omega)
  obtain ⟨x, hx⟩ := Int.gcd_dvd_left X L
  obtain ⟨l, hl⟩ := Int.gcd_dvd_right X L
  generalize Int.gcd X L = v at *
  have hv : (v : Int) ≠ 0 := by omega
  have hl0 : 0 < l := by
    by_cases c : 0 < l
    · exact c
    · have : (v : Int) * l ≤ 0 := Int.mul_nonpos_of_nonneg_of_nonpos (by omega) (by omega)
      omega
  refine ⟨v, x, l, by omega, hx, hl, ?_, ?_, hl0, ?_, ?_⟩
  · rw [hx, Int.mul_tdiv_cancel_left _ hv]
  · rw [hl, Int.mul_tdiv_cancel_left _ hv]
  · have := Int.mul_le_mul_of_nonneg_right (show (1 : Int) ≤ v by omega) (show 0 ≤ l by omega)
    omega
  · rw [hx, Int.natAbs_mul]
    exact Nat.le_mul_of_pos_left _ (by omega)
theorem m_add {h : zHp} {t b r X L : Int} (hz : zst2 h X L) (hL : 0 < L) (hL2 : L ≤ 166320) (hX : X.natAbs ≤ 1000000000000) (ht : t.natAbs ≤ 100000) (hb : 0 < b) (hb2 : b ≤ 72) (e : L = b * r) : ∃ h1 : zHp, s_X10_addEffect (lI t) (lI b) h = some h1 ∧ h1.1 = h.1 ∧ zst2 h1 (X + t * r) L := by
  obtain ⟨g, u, l, g0, e1, e2, e3, e4, l0, l1, u1⟩ := zlow (X := X) hL
  unfold zst2 at hz
  rw [e3, e4] at hz
  have p1 := zna_mul (x := u) (y := b) (X := 1000000000000) (Y := 72) (by omega) (by omega)
  have p2 := zna_mul (x := t) (y := l) (X := 100000) (Y := 166320) (by omega) (by omega)
  have p3 := zna_mul (x := l) (y := b) (X := 166320) (Y := 72) (by omega) (by omega)
  have lb : 0 < l * b := Int.mul_pos l0 hb
  have key : (u * b + t * l) * L = (X + t * r) * (l * b) := by
    have a1 : u * b * L = X * (l * b) := by rw [e1, e2]; ac_rfl
    have a2 : t * l * L = t * r * (l * b) := by rw [e]; ac_rfl
    rw [Int.add_mul, Int.add_mul, a1, a2]
  obtain ⟨k1, k2⟩ := zred lb hL key
  have bT : zB (u * b + t * l) := ⟨by omega, by omega⟩
  have bB : zB (l * b) := ⟨by omega, by omega⟩
  obtain ⟨g3, g4⟩ := zgcdB (a := u * b + t * l) bB (by omega)
  refine ⟨zwl (zwl (zwl (zwl h 67 59 (lI (u * b + t * l))) 67 60 (lI (l * b))) 67 59 (lI ((u * b + t * l).tdiv (Int.gcd (u * b + t * l) (l * b))))) 67 60 (lI ((l * b).tdiv (Int.gcd (u * b + t * l) (l * b)))), ?_, ?_, ?_⟩
  · simp only [s_X10_addEffect, hz.1, hz.2, Option.bind_some, lI_mul, lI_add, zpl, zl_a, zl_b, zl_c, zl_d, m_gcd bT bB, zldivI bT g4 (by omega), zldivI bB g4 (by omega)]
  · rfl
  · unfold zst2
    rw [zl_a, zl_c, zl_d, k1, k2]
    exact ⟨rfl, rfl⟩
def zon (c D : Nat → Nat) (m : Nat) : Nat → Int
  | 0 => 0
  | n + 1 => zon c D m n + if D n = 12 then zca c n 12 - zca c n m else 0
def zah (c D : Nat → Nat) (m : Nat) : Nat → Int
  | 0 => 0
  | n + 1 => zah c D m n + if D n = 12 then zca c n m else 0
theorem znr_on (c D : Nat → Nat) (m : Nat) : ∀ n, znr c D m n = zon c D m n * (27720 / (12 - m) : Nat) - zah c D m n * (27720 / m : Nat)
  | 0 => by rw [znr, zon, zah, Int.zero_mul, Int.zero_mul]; rfl
  | n + 1 => by
    rw [znr, zon, zah, znr_on c D m n]
    split
    · rw [Int.add_mul, Int.add_mul, zrsM]; omega
    · rw [Int.add_zero, Int.add_zero, Int.add_zero]
theorem zon_rng {c D : Nat → Nat} (hc : ∀ r, r < 72 → c r ≤ 999) {m : Nat} (hm : m ≤ 12) : ∀ n, n ≤ 6 → 0 ≤ zon c D m n ∧ zon c D m n ≤ 11988 * n ∧ 0 ≤ zah c D m n ∧ zah c D m n ≤ 11988 * n
  | 0, _ => ⟨Int.le_refl _, Int.le_refl _, Int.le_refl _, Int.le_refl _⟩
  | n + 1, h => by
    obtain ⟨i1, i2, i3, i4⟩ := zon_rng (D := D) hc hm n (by omega)
    have a := zca_rng hc (show n < 6 by omega) 12 (by omega)
    have b := zca_rng hc (show n < 6 by omega) m hm
    have d := zca_mono (c := c) (s := n) (12 - m) m
    rw [show m + (12 - m) = 12 from by omega] at d
    rw [zon, zah]
    split <;> omega
theorem zq12 : ∀ m, m < 12 → 1 ≤ m → m * (27720 / m) = 27720 ∧ (12 - m) * (27720 / (12 - m)) = 27720 := by decide
theorem m_eff1 {c D : Nat → Nat} (k72 : Int32 → Int32 → Int32 → zHp → Option (Int32 × zHp)) {N mo : Nat} (hN : 0 < N) (hN2 : N ≤ 6) (h1 : 1 ≤ mo) (h2 : mo ≤ 11) (a2 a3 : Int32) {h : zHp} (H : zTM h c D) {X : Int} (hz : zst2 h X (27720 * N)) (hX : X.natAbs ≤ 100000000000) : ∀ m k f, k + m = 6 → m < f → ∃ h1 : zHp, s_X10_findEffect_L144 k72 f (nI N) a2 a3 (nI mo) (lI (zon c D mo k)) (lI (zah c D mo k)) (nI k) h = k72 (nI N) a2 (a3 + 1) h1 ∧ h1.1 = h.1 ∧ zst2 h1 (X - znr c D mo 6) (27720 * N)
  | 0, k, f + 1, hm, hf => by
    obtain rfl : k = 6 := by omega
    obtain ⟨i1, i2, i3, i4⟩ := zon_rng (D := D) (fun r hr => (H.2 r hr).2) (show mo ≤ 12 by omega) 6 (Nat.le_refl 6)
    obtain ⟨q1, q2⟩ := zq12 mo (by omega) h1
    have q1' : (mo : Int) * (27720 / mo : Nat) = 27720 := by rw [← Int.natCast_mul, q1]; rfl
    have q2' : ((12 - mo : Nat) : Int) * (27720 / (12 - mo) : Nat) = 27720 := by rw [← Int.natCast_mul, q2]; rfl
    have f1 : 27720 / mo ≤ 27720 := Nat.div_le_self _ _
    have f2 : 27720 / (12 - mo) ≤ 27720 := Nat.div_le_self _ _
    have b1 := zna_mul (x := (N : Int)) (y := ((12 - mo : Nat) : Int)) (X := 6) (Y := 12) (by omega) (by omega)
    have b2 := zna_mul (x := (N : Int)) (y := (mo : Int)) (X := 6) (Y := 12) (by omega) (by omega)
    have b3 : 0 < (N : Int) * ((12 - mo : Nat) : Int) := Int.mul_pos (by omega) (by omega)
    have b4 : 0 < (N : Int) * (mo : Int) := Int.mul_pos (by omega) (by omega)
    obtain ⟨g1, r1, r2, r3⟩ := m_add (t := -zon c D mo 6) (b := (N : Int) * ((12 - mo : Nat) : Int)) (r := (27720 / (12 - mo) : Nat)) hz (by omega) (by omega) (by omega) (by omega) b3 (by omega) (by rw [Int.mul_assoc, q2']; omega)
    have b5 := zna_mul (x := -zon c D mo 6) (y := ((27720 / (12 - mo) : Nat) : Int)) (X := 100000) (Y := 27720) (by omega) (by rw [Int.natAbs_natCast]; exact f2)
    obtain ⟨g2, s1, s2, s3⟩ := m_add (t := zah c D mo 6) (b := (N : Int) * (mo : Int)) (r := (27720 / mo : Nat)) r3 (by omega) (by omega) (by omega) (by omega) b4 (by omega) (by rw [Int.mul_assoc, q1']; omega)
    refine ⟨g2, ?_, by rw [s2, r2], ?_⟩
    · have e1 : (12 : Int64) - lI (mo : Int) = lI ((12 - mo : Nat) : Int) := by
        rw [show (12 : Int64) = lI 12 from by decide +kernel, lI_sub]
        congr 1
        omega
      simp only [s_X10_findEffect_L144, s_X10_findEffect_L246, z66, reduceIte, lI_neg, e1, lI_nI (show N < 2 ^ 31 by omega), lI_nI (show mo < 2 ^ 31 by omega), lI_mul, r1, s1, Option.bind_some]
    · rw [znr_on, show X - (zon c D mo 6 * ↑(27720 / (12 - mo)) - zah c D mo 6 * ↑(27720 / mo)) = X + -zon c D mo 6 * ↑(27720 / (12 - mo)) + zah c D mo 6 * ↑(27720 / mo) from by rw [Int.neg_mul]; omega]
      exact s3
  | m + 1, k, f + 1, hm, hf => by
    obtain ⟨g, g1, g2, g3⟩ := m_eff1 k72 hN hN2 h1 h2 a2 a3 H hz hX m (k + 1) f (by omega) (by omega)
    obtain ⟨d1, d2⟩ := H.1 k (by omega)
    refine ⟨g, ?_, g2, g3⟩
    rw [zon, zah] at g1
    by_cases e : D k = 12
    · rw [if_pos e, if_pos e] at g1
      simp only [s_X10_findEffect_L144, s_X10_findEffect_L178, s_X10_findEffect_L208, z6le (show k < 6 by omega), reduceIte, zriA (show k < 6 by omega) (by decide), d1, Option.bind_some, (z12eq d2).mpr e, m_on H (show k < 6 by omega) (show mo ≤ 12 by omega), m_ahead H (show k < 6 by omega) (show mo ≤ 12 by omega), lI_add, nI_1]
      exact g1
    · rw [if_neg e, if_neg e, Int.add_zero, Int.add_zero] at g1
      have e0 : ∀ x : Int64, x + 0 = x := Int64.add_zero
      simp only [s_X10_findEffect_L144, s_X10_findEffect_L178, s_X10_findEffect_L208, z6le (show k < 6 by omega), reduceIte, zriA (show k < 6 by omega) (by decide), d1, Option.bind_some, if_neg (fun z => e ((z12eq d2).mp z)), e0, nI_1]
      exact g1

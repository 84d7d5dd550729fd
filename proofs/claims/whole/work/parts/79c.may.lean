/-! ===== rounds: what the reference may take, and uses ===== -/
def zoo : Nat → Nat → Nat
  | 0, _ => 0
  | k + 1, b => b % 2 + zoo k (b / 2)
theorem zoo0 : ∀ k, zoo k 0 = 0
  | 0 => rfl
  | k + 1 => by rw [zoo, Nat.zero_mod, Nat.zero_div, zoo0 k]
theorem zoo3 : ∀ x, x < 8 → zoo 3 x = zpc x := by decide +kernel
theorem m_ones1 {h : zHp} : ∀ k b a f, b < 2 ^ k → k ≤ 10 → k < f → s_X10_ones_L4 f (nI a) (nI b) h = some (nI (a + zoo k b), h)
  | 0, b, a, f + 1, hb, hk, hf => by
    obtain rfl : b = 0 := by omega
    rw [s_X10_ones_L4, if_pos (show nI 0 ≤ 0 by decide)]
    rfl
  | k + 1, b, a, f + 1, hb, hk, hf => by
    by_cases b0 : b = 0
    · subst b0
      rw [s_X10_ones_L4, if_pos (show nI 0 ≤ 0 by decide), zoo0]
      rfl
    · have b2 : 2 ^ (k + 1) ≤ 2 ^ 10 := Nat.pow_le_pow_right (by decide) hk
      have ih := m_ones1 (h := h) k (b / 2) (a + b % 2) f (by rw [Nat.pow_succ] at hb; omega) (by omega) (by omega)
      rw [s_X10_ones_L4, if_neg (nI_nle (by omega) (by omega)), zbs (show zrem (nI b) 2 = some (nI (b % 2)) from zremA (d := 2) (by omega) (by decide) (by decide)), zbs rfl, nI_add, zbs (show zdiv (nI b) 2 = some (nI (b / 2)) from zdivA (d := 2) (by omega) (by decide) (by decide)), ih, zoo, Nat.add_assoc]
theorem m_ones {h : zHp} {x : Nat} (hx : x < 8) : s_X10_ones (nI x) h = some (nI (zpc x), h) := by
  have := m_ones1 (h := h) 3 x 0 zFU (by omega) (by decide) (zFU_gt (by decide))
  rw [Nat.zero_add, zoo3 x hx, nI_0] at this
  exact this
theorem zfr_bit (h : zHp) (o : Nat) : ∀ n k, (zfr h o n).testBit k = (decide (k < n) && decide (h.1 2 (k * 10 + o) = 0))
  | 0, k => by rw [zfr, Nat.zero_testBit]; rfl
  | n + 1, k => by
    rw [zfr]
    by_cases e : k = n
    · subst e
      have z : (zfr h o k).testBit k = false := Nat.testBit_lt_two_pow (zfr_lt h o k)
      by_cases c : h.1 2 (k * 10 + o) = 0
      · rw [if_pos c, Nat.testBit_or, Nat.testBit_two_pow, decide_eq_true c, decide_eq_true (show k < k + 1 by omega), decide_eq_true (show k = k from rfl)]
        simp
      · rw [if_neg c, z, decide_eq_false c, Bool.and_false]
    · have ih := zfr_bit h o n k
      have l : decide (k < n + 1) = decide (k < n) := by
        by_cases q : k < n
        · rw [decide_eq_true q, decide_eq_true (by omega)]
        · rw [decide_eq_false q, decide_eq_false (by omega)]
      rw [l, ← ih]
      split
      · rw [Nat.testBit_or, Nat.testBit_two_pow, decide_eq_false (show ¬ n = k from fun z => e z.symm), Bool.or_false]
      · rfl
def zmy (h0 : zHp) (o x : Nat) (r : Nat → Nat) : Nat → Bool
  | 0 => true
  | k + 1 => zmy h0 o x r k && (!(x.testBit k) || (decide (h0.1 2 (k * 10 + o) = 0) && decide (1 ≤ r k)))
theorem zmy_iff {h0 : zHp} {o x : Nat} {r : Nat → Nat} : ∀ n, zmy h0 o x r n = true ↔ ∀ k, k < n → x.testBit k = true → h0.1 2 (k * 10 + o) = 0 ∧ 1 ≤ r k
  | 0 => ⟨fun _ k h => by omega, fun _ => rfl⟩
  | n + 1 => by
    rw [zmy, Bool.and_eq_true, zmy_iff n]
    simp only [Bool.or_eq_true, Bool.not_eq_true', Bool.and_eq_true, decide_eq_true_iff]
    constructor
    · rintro ⟨a, b⟩ k hk hx
      by_cases e : k = n
      · subst e
        rcases b with b | b
        · rw [b] at hx; cases hx
        · exact b
      · exact a k (by omega) hx
    · intro a
      refine ⟨fun k hk => a k (by omega), ?_⟩
      cases c : x.testBit n
      · exact Or.inl rfl
      · exact Or.inr (a n (by omega) c)
/-- what the reference has used of a capacity -/
def zUs (h : zHp) (cap : Nat) (ρ : Nat → Nat) : Prop := ∀ j, j < 15 → h.1 99 j = nI (cap - ρ j) ∧ ρ j ≤ cap
theorem m_may1 {h0 h : zHp} {cap n i K o d x w : Nat} {ρ : Nat → Nat} (hn : n ≤ 3) (hi : i < 6) (hK : K < 20) (ho : o < 10) (hc : 1 ≤ cap) (hc9 : cap ≤ 9) (e93 : h.1 93 i = nI K) (e77 : h.1 77 K = nI o) (e81 : h.1 81 = h0.1 2) (e30 : h.1 67 30 = nI cap) (us : zUs h cap ρ) (hd : d < 5) (hx : x < 8) (hw : w = 8 * d + x) : ∀ m k f, k + m = n → m < f → s_X10_mayTake_L56 f (nI i) (nI w) (nI n) (nI x) (zb2 (zmy h0 o x (fun k => ρ (3 * d + k)) k)) (nI k) h = some (zb2 (zmy h0 o x (fun k => ρ (3 * d + k)) n), h)
  | 0, k, f + 1, hm, hf => by
    obtain rfl : k = n := by omega
    rw [s_X10_mayTake_L56, if_pos (nI_le (Nat.le_refl k) (by omega))]
    unfold zb2
    cases zmy h0 o x (fun k => ρ (3 * d + k)) k
    · exact zbs zbo0
    · exact zbs zbo1
  | m + 1, k, f + 1, hm, hf => by
    have ih := m_may1 (h0 := h0) hn hi hK ho hc hc9 e93 e77 e81 e30 us hd hx hw m (k + 1) f (by omega) (by omega)
    rw [zmy] at ih
    rw [s_X10_mayTake_L56, if_neg (nI_ge (show k < n by omega) (by omega))]
    unfold s_X10_mayTake_L123 s_X10_mayTake_L127 s_X10_mayTake_L128
    rw [nI_1]
    cases e : zmy h0 o x (fun k => ρ (3 * d + k)) k
    · rw [e, Bool.false_and] at ih
      rw [if_pos (show zb2 false = 0 from rfl)]
      exact ih
    · rw [e, Bool.true_and] at ih
      rw [if_neg (show ¬ zb2 true = 0 from z10)]
      cases b : x.testBit k
      · rw [b] at ih
        rw [if_pos ((zbt0 (by omega) (by omega)).mpr b)]
        exact ih
      · rw [b] at ih
        simp only [Bool.not_true, Bool.false_or] at ih
        rw [if_neg (fun z => by rw [zbt0 (by omega) (by omega), b] at z; cases z), zbs (zriA hi (by decide) h 93), e93, zbs (zriA hK (by decide) h 77), e77, (zix2 (a := k) (b := o) (n := 0)).2, zbs (zriA (show k * 10 + o < 50 by omega) (by decide) h 81), e81]
        by_cases c : h0.1 2 (k * 10 + o) = 0
        · rw [decide_eq_true c, Bool.true_and] at ih
          obtain ⟨u1, u2⟩ := us (3 * d + k) (by omega)
          rw [if_pos c, zbs (show zdiv (nI w) 8 = some (nI d) from by rw [show zdiv (nI w) 8 = some (nI (w / 8)) from zdivA (d := 8) (by omega) (by decide) (by decide), show w / 8 = d by omega]), zix3.2, zbs (zriA (show 3 * d + k < 15 by omega) (by decide) h 99), u1, e30]
          by_cases g : 1 ≤ ρ (3 * d + k)
          · rw [decide_eq_true g] at ih
            rw [if_neg (nI_ge (show cap - ρ (3 * d + k) < cap by omega) (by omega))]
            exact ih
          · rw [decide_eq_false g] at ih
            rw [if_pos (nI_le (show cap ≤ cap - ρ (3 * d + k) by omega) (by omega))]
            exact ih
        · rw [decide_eq_false c, Bool.false_and] at ih
          rw [if_neg c]
          exact ih
theorem w_shr : ∀ x, x < 8 → ∀ n, n < 4 → ((nI x >>> (nI n &&& 31)) = 0 ↔ x < 2 ^ n) := by decide +kernel
theorem m_may {h0 h : zHp} {t nc nk nl nt np n cap i w : Nat} {ρ : Nat → Nat} (hN : zIN h0 t nc nk nl nt np) (A : zAs h0 nc nl nt t nk h) (hn : n ≤ 3) (hc : 1 ≤ cap) (hc9 : cap ≤ 9) (ec : h0.1 67 30 = nI cap) (us : zUs h cap ρ) (hi : i < zSz h0 nc nl nt t nk) (hw : w ≤ 40) : s_X10_mayTake (nI i) (nI w) (nI n) h = some (zb2 (decide (w = 40) || zokb (zNp h0 nc nl nt t nk) (zFp h0 nc nl nt t nk n) ρ i w), h) := by
  obtain ⟨hs, -, a2, -⟩ := A
  have s6 := zSz_le h0 nc nl nt t nk
  have k3 := hN.2.2.1.1.2.2
  have e93 := (a2 i hi).1
  have Kl := (zKt_is hi).1
  have y2 := hN.2.2.1.2.2.2
  have x2 := hN.2.2.2.2.1.2.1
  obtain ⟨-, -, -, ⟨o, o1, o2⟩, -⟩ := hN.2.2.1.2.2.1 _ Kl
  have e77 : h.1 77 (zKt h0 nc nl nt t nk i) = nI o := by rw [hs.1 77 (by decide), ← hN.2.2.1.2.1.2.2.2.1]; exact o2
  have e79 : h.1 79 (zKt h0 nc nl nt t nk i) = h0.1 20 (zKt h0 nc nl nt t nk i) := by rw [hs.1 79 (by decide), ← hN.2.2.1.2.1.2.2.2.2.2.2]
  have e81 : h.1 81 = h0.1 2 := by rw [hs.1 81 (by decide), ← x2]
  have e30 : h.1 67 30 = nI cap := by rw [hs.2 30 (by decide) (by decide)]; exact ec
  unfold s_X10_mayTake
  by_cases w40 : w = 40
  · subst w40
    rw [if_pos (show nI 40 = 40 by decide)]
    rfl
  · have wl : w < 40 := by omega
    obtain ⟨d, x, hd, hx, rfl⟩ : ∃ d x, d < 5 ∧ x < 8 ∧ w = 8 * d + x := ⟨w / 8, w % 8, by omega, by omega, by omega⟩
    have Fe : zFp h0 nc nl nt t nk n i = zfr h0 o n := by unfold zFp zFk; rw [o2, nI_clamp (by omega)]
    have key : zokb (zNp h0 nc nl nt t nk) (zFp h0 nc nl nt t nk n) ρ i (8 * d + x) = (decide (x < 2 ^ n) && (decide (zpc x = zNp h0 nc nl nt t nk i) && zmy h0 o x (fun k => ρ (3 * d + k)) n)) := by
      rw [Bool.eq_iff_iff, zokb_iff]
      simp only [Bool.and_eq_true, decide_eq_true_iff, zmy_iff]
      unfold zopt
      rw [show (8 * d + x) % 8 = x by omega, show (8 * d + x) / 8 = d by omega, Fe]
      constructor
      · rintro ⟨-, ⟨-, a, b⟩, c⟩
        have xl : x < 2 ^ n := by
          have l1 := zfr_lt h0 o n
          have l2 : x &&& zfr h0 o n ≤ zfr h0 o n := Nat.and_le_right
          omega
        refine ⟨xl, b, fun k hk hb => ?_⟩
        have c' := c k (by omega)
        rw [y3_1 hb] at c'
        refine ⟨?_, c'⟩
        rw [← a, Nat.testBit_and, zfr_bit, Bool.and_eq_true, Bool.and_eq_true] at hb
        exact of_decide_eq_true hb.2.2
      · rintro ⟨a, b, c⟩
        have lt : ∀ k, x.testBit k = true → k < n := fun k hk => by
          apply Classical.byContradiction
          intro z
          rw [Nat.testBit_lt_two_pow (Nat.lt_of_lt_of_le a (Nat.pow_le_pow_right (by decide) (by omega)))] at hk
          cases hk
        refine ⟨by omega, ⟨hx, ?_, b⟩, fun k hk => ?_⟩
        · apply Nat.eq_of_testBit_eq
          intro k
          rw [Nat.testBit_and]
          cases hb : x.testBit k
          · rfl
          · rw [Bool.true_and, zfr_bit, decide_eq_true (lt k hb), decide_eq_true (c k (lt k hb) hb).1]
            rfl
        · cases hb : x.testBit k
          · rw [y3_0 hb]; exact Nat.zero_le _
          · rw [y3_1 hb]; exact (c k (lt k hb) hb).2
    have n0 : ¬ nI (8 * d + x) = 40 := fun z => w40 ((nI_eq (b := 40) (by omega) (by decide)).mp z)
    rw [if_neg n0, decide_eq_false w40, Bool.false_or, key, zbs (show zrem (nI (8 * d + x)) 8 = some (nI x) from by rw [show zrem (nI (8 * d + x)) 8 = some (nI ((8 * d + x) % 8)) from zremA (d := 8) (by omega) (by decide) (by decide), show (8 * d + x) % 8 = x by omega])]
    unfold s_X10_mayTake_L45 s_X10_mayTake_L48
    by_cases c1 : x < 2 ^ n
    · rw [if_pos ((w_shr x hx n (by omega)).mpr c1), decide_eq_true c1, Bool.true_and, zbs (m_ones hx), zbs (zriA (show i < 6 by omega) (by decide) h 93), e93, zbs (zriA (show zKt h0 nc nl nt t nk i < 20 by omega) (by decide) h 79), e79]
      have q := m_may1 (h0 := h0) (w := 8 * d + x) hn (show i < 6 by omega) (show zKt h0 nc nl nt t nk i < 20 by omega) o1 hc hc9 e93 e77 e81 e30 us hd hx rfl n 0 zFU (by omega) (zFU_gt (by omega))
      rw [nI_0, show zb2 (zmy h0 o x (fun k => ρ (3 * d + k)) 0) = 1 from rfl] at q
      have zl := zpc_lt x hx
      unfold zNp zNk
      by_cases c2 : h0.1 20 (zKt h0 nc nl nt t nk i) = 0
      · rw [if_pos c2, if_pos c2]
        by_cases c3 : zpc x = 1
        · rw [if_pos (show nI (zpc x) = 1 by rw [c3]; decide), decide_eq_true c3, Bool.true_and]; exact q
        · rw [if_neg (show ¬ nI (zpc x) = 1 from fun z => c3 ((nI_eq (b := 1) (by omega) (by decide)).mp z)), decide_eq_false c3]; rfl
      · rw [if_neg c2, if_neg c2]
        by_cases c3 : zpc x = 2
        · rw [if_pos (show nI (zpc x) = 2 by rw [c3]; decide), decide_eq_true c3, Bool.true_and]; exact q
        · rw [if_neg (show ¬ nI (zpc x) = 2 from fun z => c3 ((nI_eq (b := 2) (by omega) (by decide)).mp z)), decide_eq_false c3]; rfl
    · rw [if_neg (fun z => c1 ((w_shr x hx n (by omega)).mp z)), decide_eq_false c1]
      rfl
/-! use -/
theorem m_use1 (by' : Int32) {d x w : Nat} (hd : d < 5) (hx : x < 8) (hw : w = 8 * d + x) : ∀ m k f (h : zHp), k + m = 3 → m < f → ∃ h2 : zHp, s_X10_use_L2 f (nI w) by' (nI k) h = some h2 ∧ zbut 99 h h2 ∧ ∀ j, j < 15 → h2.1 99 j = if j / 3 = d ∧ k ≤ j % 3 then h.1 99 j + nI (y3 x (j % 3)) * by' else h.1 99 j
  | 0, k, f + 1, h, hm, hf => by
    obtain rfl : k = 3 := by omega
    refine ⟨h, ?_, zbut.rf 99 h, fun j hj => by rw [if_neg (by omega)]⟩
    rw [s_X10_use_L2, if_pos z33]
    rfl
  | m + 1, k, f + 1, h, hm, hf => by
    have hk : k < 3 := by omega
    obtain ⟨g, g1, g2, g3⟩ := m_use1 by' hd hx hw m (k + 1) f (zwi h 99 (3 * d + k) (h.1 99 (3 * d + k) + nI (y3 x k) * by')) (by omega) (by omega)
    refine ⟨g, ?_, ((zbut.rf 99 h).wi _ _).tr g2, fun j hj => ?_⟩
    · rw [s_X10_use_L2, if_neg (z3le hk), if_neg (show ¬ (40 : Int32) ≤ nI w from nI_ge (b := 40) (by omega) (by decide)), zbs (show zdiv (nI w) 8 = some (nI d) from by rw [show zdiv (nI w) 8 = some (nI (w / 8)) from zdivA (d := 8) (by omega) (by decide) (by decide), show w / 8 = d by omega]), zix3.2, zbs rfl, zbs (zriA (show 3 * d + k < 15 by omega) (by decide) h 99), zbs (show zrem (nI w) 8 = some (nI x) from by rw [show zrem (nI w) 8 = some (nI (w % 8)) from zremA (d := 8) (by omega) (by decide) (by decide), show w % 8 = x by omega]), zbtv (by omega) (by omega), zbs (zuiA (show 3 * d + k < 15 by omega) (by decide) h 99 _), nI_1]
      exact g1
    · rw [g3 j hj, zwi_self]
      by_cases e : j = 3 * d + k
      · rw [e, pk_us, if_neg (by omega), if_pos ⟨by omega, by omega⟩, show (3 * d + k) % 3 = k by omega]
      · rw [pk_un e]
        by_cases z : j / 3 = d ∧ k + 1 ≤ j % 3
        · rw [if_pos z, if_pos ⟨z.1, by omega⟩]
        · rw [if_neg z, if_neg (by omega)]
theorem m_use40 (by' : Int32) (h : zHp) : s_X10_use (nI 40) by' h = some h := by
  unfold s_X10_use
  obtain ⟨f, hfu⟩ : ∃ f, zFU = f + 1 := ⟨4611686018427387903, rfl⟩
  rw [hfu, s_X10_use_L2, if_neg (by decide), if_pos (show (40 : Int32) ≤ nI 40 by decide)]
  rfl
theorem m_useP {h : zHp} {cap i w : Nat} {N F ρ : Nat → Nat} (us : zUs h cap ρ) (ok : w = 40 ∨ zokb N F ρ i w = true) : ∃ h2 : zHp, s_X10_use (nI w) 1 h = some h2 ∧ zbut 99 h h2 ∧ zUs h2 cap (zsub ρ w) := by
  rcases ok with rfl | ok
  · exact ⟨h, m_use40 1 h, zbut.rf 99 h, by rw [zsub_40]; exact us⟩
  · rw [zokb_iff] at ok
    obtain ⟨g, g1, g2, g3⟩ := m_use1 1 (d := w / 8) (x := w % 8) (w := w) (by omega) (by omega) (by omega) 3 0 zFU h (by omega) (zFU_gt (by decide))
    rw [nI_0] at g1
    refine ⟨g, g1, g2, fun j hj => ?_⟩
    obtain ⟨u1, u2⟩ := us j hj
    rw [g3 j hj, u1]
    unfold zsub
    by_cases e : j / 3 = w / 8
    · have y := ok.2.2 (j % 3) (by omega)
      rw [show 3 * (w / 8) + j % 3 = j by omega] at y
      rw [if_pos ⟨e, Nat.zero_le _⟩, if_pos e, Int32.mul_one, nI_add, show cap - ρ j + y3 (w % 8) (j % 3) = cap - (ρ j - y3 (w % 8) (j % 3)) by omega]
      exact ⟨rfl, by omega⟩
    · rw [if_neg (fun z => e z.1), if_neg e]
      exact ⟨rfl, u2⟩
theorem m_useM {h : zHp} {cap i w : Nat} {N F ρ : Nat → Nat} (us : zUs h cap (zsub ρ w)) (hρ : ∀ j, j < 15 → ρ j ≤ cap) (ok : w = 40 ∨ zokb N F ρ i w = true) : ∃ h2 : zHp, s_X10_use (nI w) (-1) h = some h2 ∧ zbut 99 h h2 ∧ zUs h2 cap ρ := by
  rcases ok with rfl | ok
  · rw [zsub_40] at us
    exact ⟨h, m_use40 (-1) h, zbut.rf 99 h, us⟩
  · rw [zokb_iff] at ok
    obtain ⟨g, g1, g2, g3⟩ := m_use1 (-1) (d := w / 8) (x := w % 8) (w := w) (by omega) (by omega) (by omega) 3 0 zFU h (by omega) (zFU_gt (by decide))
    rw [nI_0] at g1
    refine ⟨g, g1, g2, fun j hj => ⟨?_, hρ j hj⟩⟩
    have r := hρ j hj
    rw [g3 j hj, (us j hj).1]
    unfold zsub
    by_cases e : j / 3 = w / 8
    · have y := ok.2.2 (j % 3) (by omega)
      rw [show 3 * (w / 8) + j % 3 = j by omega] at y
      rw [if_pos ⟨e, Nat.zero_le _⟩, if_pos e, Int32.mul_neg, Int32.mul_one, ← Int32.sub_eq_add_neg, pk_sub (by omega), show cap - (ρ j - y3 (w % 8) (j % 3)) - y3 (w % 8) (j % 3) = cap - ρ j by omega]
    · rw [if_neg (fun z => e z.1), if_neg e]

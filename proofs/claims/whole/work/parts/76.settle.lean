/-! ===== rounds: settling place by place ===== -/
theorem w_free : ∀ x, x < 8 → ∀ f, f < 8 → ((nI x &&& (nI f ^^^ (-1 : Int32))) = 0 ↔ x &&& f = x) := by decide +kernel
def zal (r : Nat → Nat) (x : Nat) : Nat → Nat → Bool
  | 0, _ => true
  | m + 1, k => decide (y3 x k ≤ r k) && zal r x m (k + 1)
theorem e_may1 {h : zHp} {ρ : Nat → Nat} (r : zRo h ρ) {d x : Nat} (hd : d < 5) (hx : x < 8) : ∀ m k f, k + m = 3 → m < f → s_X8_mayTake_L31 f (nI d) (nI x) (nI k) h = some (zb2 (zal (fun k => ρ (3 * d + k)) x m k), h)
  | 0, k, f + 1, hm, hf => by
    obtain rfl : k = 3 := by omega
    rw [s_X8_mayTake_L31, if_pos z33]
    rfl
  | m + 1, k, f + 1, hm, hf => by
    have ih := e_may1 r hd hx m (k + 1) f (by omega) (by omega)
    have hk : k < 3 := by omega
    rw [s_X8_mayTake_L31, if_neg (z3le hk), zal]
    unfold s_X8_mayTake_L63
    cases c : x.testBit k
    · rw [if_pos ((zbitI x (by omega) k (by omega)).mpr c), nI_1, ih, y3_0 c]
      simp
    · rw [if_neg (fun z => by rw [zbitI x (by omega) k (by omega), c] at z; cases z), zix3.1, zbs (zriA (show 3 * d + k < 15 by omega) (by decide) h 42), (r _ (by omega)).1, y3_1 c]
      have b9 := (r (3 * d + k) (by omega)).2
      by_cases g : 1 ≤ ρ (3 * d + k)
      · rw [if_pos (show (1 : Int32) ≤ nI (ρ (3 * d + k)) from nI_le (a := 1) g (by omega)), nI_1, ih, decide_eq_true g, Bool.true_and]
      · rw [if_neg (show ¬ (1 : Int32) ≤ nI (ρ (3 * d + k)) from nI_ge (b := 1) (by omega) (by decide)), decide_eq_false g, Bool.false_and]
        rfl
theorem zokb_al {N F ρ : Nat → Nat} {p d x : Nat} (hd : d < 5) (hx : x < 8) : zokb N F ρ p (8 * d + x) = (decide (x &&& F p = x) && (decide (zpc x = N p) && zal (fun k => ρ (3 * d + k)) x 3 0)) := by
  unfold zokb
  rw [show (8 * d + x) % 8 = x by omega, show (8 * d + x) / 8 = d by omega, decide_eq_true (show 8 * d + x < 40 by omega)]
  simp only [zal, Bool.true_and, Bool.and_true]
theorem e_may {h : zHp} {s n p d x : Nat} {P : Nat → Nat → Nat} {N F ρ : Nat → Nat} (w : zWk h s n P N F) (r : zRo h ρ) (hp : p < s) (hd : d < 5) (hx : x < 8) : s_X8_mayTake (nI p) (nI d) (nI x) h = some (zb2 (zokb N F ρ p (8 * d + x)), h) := by
  have hs := w.1.2
  have n8 := zp23 w.2.1.2
  obtain ⟨w1, w2, w3, w4⟩ := w.2.2.1 p hp
  unfold s_X8_mayTake s_X8_mayTake_L26
  rw [zbs (zriA (show p < 6 by omega) (by decide) h 38), w2, zokb_al hd hx]
  by_cases c1 : x &&& F p = x
  · rw [if_pos ((w_free x hx (F p) (by omega)).mpr c1), zbs (w_bc x hx h), zbs (zriA (show p < 6 by omega) (by decide) h 37), w1, decide_eq_true c1, Bool.true_and]
    have z4 := zpc_lt x hx
    by_cases c2 : zpc x = N p
    · rw [if_pos (show nI (zpc x) = nI (N p) by rw [c2]), decide_eq_true c2, Bool.true_and]
      have := e_may1 r hd hx 3 0 zFU (by omega) (zFU_gt (by decide))
      rw [nI_0] at this
      exact this
    · rw [if_neg (show ¬ nI (zpc x) = nI (N p) from fun z => c2 ((nI_eq (by omega) (by omega)).mp z)), decide_eq_false c2, Bool.false_and]
      rfl
  · rw [if_neg (fun z => c1 ((w_free x hx (F p) (by omega)).mp z)), decide_eq_false c1, Bool.false_and]
    rfl
theorem e_cr1 (by' : Int32) {d x : Nat} (hd : d < 5) (hx : x < 8) : ∀ m k f (h : zHp), k + m = 3 → m < f → ∃ h2 : zHp, s_X8_changeRoom_L3 f (nI d) (nI x) by' (nI k) h = some h2 ∧ zbut 42 h h2 ∧ ∀ j, j < 15 → h2.1 42 j = if j / 3 = d ∧ k ≤ j % 3 ∧ x.testBit (j % 3) = true then h.1 42 j + by' else h.1 42 j
  | 0, k, f + 1, h, hm, hf => by
    obtain rfl : k = 3 := by omega
    refine ⟨h, ?_, zbut.rf 42 h, fun j hj => by rw [if_neg (by omega)]⟩
    rw [s_X8_changeRoom_L3, if_pos z33]
  | m + 1, k, f + 1, h, hm, hf => by
    have hk : k < 3 := by omega
    cases c : x.testBit k
    · obtain ⟨g, g1, g2, g3⟩ := e_cr1 by' hd hx m (k + 1) f h (by omega) (by omega)
      refine ⟨g, ?_, g2, fun j hj => ?_⟩
      · rw [s_X8_changeRoom_L3, if_neg (z3le hk), if_pos ((zbitI x (by omega) k (by omega)).mpr c)]
        unfold s_X8_changeRoom_L33
        rw [nI_1]
        exact g1
      · rw [g3 j hj]
        by_cases e : j % 3 = k
        · rw [if_neg (by omega), if_neg (by rw [e, c]; simp)]
        · by_cases z : j / 3 = d ∧ k + 1 ≤ j % 3 ∧ x.testBit (j % 3) = true
          · rw [if_pos z, if_pos ⟨z.1, by omega, z.2.2⟩]
          · rw [if_neg z, if_neg (fun y => z ⟨y.1, by omega, y.2.2⟩)]
    · obtain ⟨g, g1, g2, g3⟩ := e_cr1 by' hd hx m (k + 1) f (zwi h 42 (3 * d + k) (h.1 42 (3 * d + k) + by')) (by omega) (by omega)
      refine ⟨g, ?_, ((zbut.rf 42 h).wi _ _).tr g2, fun j hj => ?_⟩
      · rw [s_X8_changeRoom_L3, if_neg (z3le hk), if_neg (fun z => by rw [zbitI x (by omega) k (by omega), c] at z; cases z)]
        unfold s_X8_changeRoom_L33
        rw [zix3.1, zbs rfl, zbs (zriA (show 3 * d + k < 15 by omega) (by decide) h 42), zbs (zuiA (show 3 * d + k < 15 by omega) (by decide) h 42 _), nI_1]
        exact g1
      · rw [g3 j hj, zwi_self]
        by_cases e : j = 3 * d + k
        · rw [e, pk_us, if_neg (by omega), if_pos ⟨by omega, by omega, by rw [show (3 * d + k) % 3 = k by omega]; exact c⟩]
        · rw [pk_un e]
          by_cases z : j / 3 = d ∧ k + 1 ≤ j % 3 ∧ x.testBit (j % 3) = true
          · rw [if_pos z, if_pos ⟨z.1, by omega, z.2.2⟩]
          · rw [if_neg z, if_neg (fun y => z ⟨y.1, by omega, y.2.2⟩)]
theorem e_take {h : zHp} {N F ρ : Nat → Nat} {p d x : Nat} (r : zRo h ρ) (hd : d < 5) (hx : x < 8) (ok : zokb N F ρ p (8 * d + x) = true) : ∃ h2 : zHp, s_X8_changeRoom (nI d) (nI x) (-1) h = some h2 ∧ zbut 42 h h2 ∧ zRo h2 (zsub ρ (8 * d + x)) := by
  obtain ⟨g, g1, g2, g3⟩ := e_cr1 (-1) hd hx 3 0 zFU h (by omega) (zFU_gt (by decide))
  rw [nI_0] at g1
  refine ⟨g, g1, g2, fun j hj => ?_⟩
  rw [zokb_iff] at ok
  have ok := ok.2.2 (j % 3) (by omega)
  rw [show (8 * d + x) % 8 = x by omega, show (8 * d + x) / 8 = d by omega] at ok
  rw [g3 j hj, (r j hj).1]
  unfold zsub
  rw [show (8 * d + x) % 8 = x by omega, show (8 * d + x) / 8 = d by omega]
  have r9 := (r j hj).2
  by_cases e : j / 3 = d
  · have ej : 3 * d + j % 3 = j := by omega
    rw [ej] at ok
    rw [if_pos e]
    cases c : x.testBit (j % 3)
    · rw [if_neg (fun z => by cases z.2.2), y3_0 c]
      exact ⟨rfl, by omega⟩
    · rw [y3_1 c] at ok
      rw [if_pos ⟨e, Nat.zero_le _, rfl⟩, y3_1 c]
      refine ⟨?_, by omega⟩
      have e1 : ρ j - 1 + 1 = ρ j := by omega
      rw [← zpre1 (ρ j - 1), e1]
  · rw [if_neg e, if_neg (fun z => e z.1)]
    exact ⟨rfl, r9⟩
theorem e_give {h : zHp} {N F ρ : Nat → Nat} {p d x : Nat} (r : zRo h (zsub ρ (8 * d + x))) (hρ : ∀ j, j < 15 → ρ j ≤ 9) (hd : d < 5) (hx : x < 8) (ok : zokb N F ρ p (8 * d + x) = true) : ∃ h2 : zHp, s_X8_changeRoom (nI d) (nI x) 1 h = some h2 ∧ zbut 42 h h2 ∧ zRo h2 ρ := by
  obtain ⟨g, g1, g2, g3⟩ := e_cr1 1 hd hx 3 0 zFU h (by omega) (zFU_gt (by decide))
  rw [nI_0] at g1
  refine ⟨g, g1, g2, fun j hj => ⟨?_, hρ j hj⟩⟩
  rw [zokb_iff] at ok
  have ok := ok.2.2 (j % 3) (by omega)
  rw [show (8 * d + x) % 8 = x by omega, show (8 * d + x) / 8 = d by omega] at ok
  rw [g3 j hj, (r j hj).1]
  unfold zsub
  rw [show (8 * d + x) % 8 = x by omega, show (8 * d + x) / 8 = d by omega]
  by_cases e : j / 3 = d
  · have ej : 3 * d + j % 3 = j := by omega
    rw [ej] at ok
    rw [if_pos e]
    cases c : x.testBit (j % 3)
    · rw [if_neg (fun z => by cases z.2.2), y3_0 c]
      rfl
    · rw [y3_1 c] at ok
      rw [if_pos ⟨e, Nat.zero_le _, rfl⟩, y3_1 c, nI_1]
      congr 1
      omega
  · rw [if_neg e, if_neg (fun z => e z.1)]
/-- three cells -/
def zbu3 (h h' : zHp) : Prop := (∀ k, k ≠ 42 → k ≠ 44 → k ≠ 45 → h'.1 k = h.1 k) ∧ h'.2 = h.2
theorem zbu3.rf (h : zHp) : zbu3 h h := ⟨fun _ _ _ _ => rfl, rfl⟩
theorem zbu3.tr {a b d : zHp} (h1 : zbu3 a b) (h2 : zbu3 b d) : zbu3 a d := ⟨fun k x y z => (h2.1 k x y z).trans (h1.1 k x y z), h2.2.trans h1.2⟩
theorem zbut.b42 {h h' : zHp} (b : zbut 42 h h') : zbu3 h h' := ⟨fun k hk _ _ => b.1 k hk, b.2⟩
theorem zbu2.b3 {h h' : zHp} (b : zbu2 h h') : zbu3 h h' := ⟨fun k _ x y => b.1 k x y, b.2⟩
theorem zWk_b3 {h h' : zHp} {s n : Nat} {P : Nat → Nat → Nat} {N F : Nat → Nat} (w : zWk h s n P N F) (b : zbu3 h h') : zWk h' s n P N F := zWk_keep w (b.1 35 (by decide) (by decide) (by decide)) (b.1 37 (by decide) (by decide) (by decide)) (b.1 38 (by decide) (by decide) (by decide)) (b.1 39 (by decide) (by decide) (by decide))
theorem zBo_b3 {h h' : zHp} {s n : Nat} {N F : Nat → Nat} (r : zBo h s n N F) (b : zbu3 h h') : zBo h' s n N F := fun H hH M hM => by rw [b.1 43 (by decide) (by decide) (by decide)]; exact r H hH M hM
/-- a place is settled -/
def zPost (h : zHp) (P : Nat → Nat → Nat) (ρ : Nat → Nat) (p x : Nat) (q : Option (Int32 × zHp)) : Prop := ∃ h2 : zHp, q = some (nI (P p (x / 8)), h2) ∧ (∀ k, k ≠ 40 → k ≠ 41 → k ≠ 42 → k ≠ 44 → k ≠ 45 → h2.1 k = h.1 k) ∧ h2.2 = h.2 ∧ zRo h2 (zsub ρ x) ∧ h2.1 40 = upd (h.1 40) p (nI (x / 8)) ∧ h2.1 41 = upd (h.1 41) p (nI (x % 8))
theorem e_choose {h h1 : zHp} {s n p d x : Nat} {P : Nat → Nat → Nat} {N F ρ : Nat → Nat} (w : zWk h1 s n P N F) (b : zbu3 h h1) (hp : p < s) (hd : d ≤ 5) (hx : x < 8) (r : zRo h1 (zsub ρ (8 * d + x))) : zPost h P ρ p (8 * d + x) (s_X8_choose (nI p) (nI d) (nI x) h1) := by
  have hs := w.1.2
  have w2 : zWk (zwi (zwi h1 40 p (nI d)) 41 p (nI x)) s n P N F := zWk_keep w (by rw [zwi_ne 35 (by decide), zwi_ne 35 (by decide)]) (by rw [zwi_ne 37 (by decide), zwi_ne 37 (by decide)]) (by rw [zwi_ne 38 (by decide), zwi_ne 38 (by decide)]) (by rw [zwi_ne 39 (by decide), zwi_ne 39 (by decide)])
  refine ⟨zwi (zwi h1 40 p (nI d)) 41 p (nI x), ?_, fun k k1 k2 k3 k4 k5 => ?_, b.2, fun j hj => ?_, ?_, ?_⟩
  · unfold s_X8_choose
    rw [zbs (zuiA (show p < 6 by omega) (by decide) h1 40 _), zbs (zuiA (show p < 6 by omega) (by decide) _ 41 _), zbs (e_price w2 hp hd), show (8 * d + x) / 8 = d by omega]
  · rw [zwi_ne k k2, zwi_ne k k1]; exact b.1 k k3 k4 k5
  · rw [zwi_ne 42 (by decide), zwi_ne 42 (by decide)]; exact r j hj
  · rw [zwi_ne 40 (by decide), zwi_self, b.1 40 (by decide) (by decide) (by decide), show (8 * d + x) / 8 = d by omega]
  · rw [zwi_self, zwi_ne 41 (by decide), b.1 41 (by decide) (by decide) (by decide), show (8 * d + x) % 8 = x by omega]
theorem e_st1 {h : zHp} {s n p m d : Nat} {P : Nat → Nat → Nat} {N F ρ : Nat → Nat} (hm : p + (m + 1) = s) (hd : d < 5) (hρ : ∀ j, j < 15 → ρ j ≤ 9) (k2 : Int32 → Int32 → Int32 → zHp → Option (Int32 × zHp)) (Hk : ∀ h1 : zHp, zbu3 h h1 → zWk h1 s n P N F → zBo h1 s n N F → zRo h1 ρ → (∀ y, y < 8 * (d + 1) → ¬ (zokb N F ρ p y = true ∧ zvw P N F m p ρ y = zLw P N F (m + 1) p ρ)) → zPost h P ρ p (zfx P N F m p ρ) (k2 (nI p) (nI (zLw P N F (m + 1) p ρ)) (nI (d + 1)) h1)) : ∀ c x f (h1 : zHp), x + c = 2 ^ n → 1 ≤ x → c < f → zbu3 h h1 → zWk h1 s n P N F → zBo h1 s n N F → zRo h1 ρ → (∀ y, y < 8 * d + x → ¬ (zokb N F ρ p y = true ∧ zvw P N F m p ρ y = zLw P N F (m + 1) p ρ)) → zPost h P ρ p (zfx P N F m p ρ) (s_X8_settle_L18 k2 f (nI p) (nI (zLw P N F (m + 1) p ρ)) (nI d) (nI (P p d)) (nI x) h1)
  | 0, x, f + 1, h1, hc, hx, hf, b, w, bo, r, inv => by
    have n8 := zp23 w.2.1.2
    obtain rfl : x = 2 ^ n := by omega
    rw [s_X8_settle_L18, w.2.1.1, if_pos (nI_le (Nat.le_refl (2 ^ n)) (by omega))]
    unfold s_X8_settle_L92
    rw [nI_1]
    refine Hk h1 b w bo r (fun y hy => ?_)
    by_cases e : y < 8 * d + 2 ^ n
    · exact inv y e
    · intro z
      have := (zokb_iff.mp z.1).2.1.2.1
      have le : y % 8 &&& F p ≤ F p := Nat.and_le_right
      have := (w.2.2.1 p (by omega)).2.2.2
      omega
  | c + 1, x, f + 1, h1, hc, hx, hf, b, w, bo, r, inv => by
    have n8 := zp23 w.2.1.2
    have hs := w.1.2
    have hp : p < s := by omega
    have hx8 : x < 8 := by omega
    have pB : ∀ i, i < s → ∀ d, d ≤ 5 → P i d ≤ 40000000 := fun i hi e he => (w.2.2.2 i hi e he).2
    have tB := zLw_bd (N := N) (F := F) pB (m + 1) p ρ hm
    have tB2 : 40000000 * (m + 1) ≤ 240000000 := by
      have := Nat.mul_le_mul_left 40000000 (show m + 1 ≤ 6 by omega)
      omega
    have pd := pB p hp d (by omega)
    have vB := zLw_bd (N := N) (F := F) pB m (p + 1) (zsub ρ (8 * d + x)) (by omega)
    have vB2 : 40000000 * m ≤ 240000000 := by
      have := Nat.mul_le_mul_left 40000000 (show m ≤ 6 by omega)
      omega
    have next : ∀ h2 : zHp, zbu3 h1 h2 → zRo h2 ρ → ¬ (zokb N F ρ p (8 * d + x) = true ∧ zvw P N F m p ρ (8 * d + x) = zLw P N F (m + 1) p ρ) → zPost h P ρ p (zfx P N F m p ρ) (s_X8_settle_L18 k2 f (nI p) (nI (zLw P N F (m + 1) p ρ)) (nI d) (nI (P p d)) (nI (x + 1)) h2) := fun h2 b2 r2 no => by
      refine e_st1 hm hd hρ k2 Hk c (x + 1) f h2 (by omega) (by omega) (by omega) (b.tr b2) (zWk_b3 w b2) (zBo_b3 bo b2) r2 (fun y hy => ?_)
      by_cases e : y = 8 * d + x
      · rw [e]; exact no
      · exact inv y (by omega)
    rw [s_X8_settle_L18, w.2.1.1, if_neg (nI_ge (show x < 2 ^ n by omega) (by omega))]
    by_cases c1 : zLw P N F (m + 1) p ρ < P p d
    · rw [if_pos (nI_lt c1 (by omega))]
      unfold s_X8_settle_L92
      rw [nI_1]
      refine Hk h1 b w bo r (fun y hy => ?_)
      by_cases e : y < 8 * d + x
      · exact inv y e
      · intro z
        have := z.2
        unfold zvw at this
        rw [show y / 8 = d by omega] at this
        omega
    · rw [if_neg (nI_nlt (by omega) (by omega)), zbs (e_may w r hp hd hx8)]
      unfold s_X8_settle_L86
      cases ok : zokb N F ρ p (8 * d + x)
      · rw [if_pos (show zb2 false = 0 from rfl), nI_1]
        exact next h1 (zbu3.rf h1) r (fun z => by rw [ok] at z; cases z.1)
      · rw [if_neg (show ¬ zb2 true = 0 from z10)]
        obtain ⟨g, g1, g2, g3⟩ := e_take r hd hx8 ok
        have bg := g2.b42
        obtain ⟨g', k1, k3⟩ := e_least (i := p + 1) (zWk_b3 w bg) g3 (zBo_b3 bo bg) (by omega)
        have bg' := bg.tr k3.b3
        rw [show s - (p + 1) = m by omega] at k1
        have ez : zvw P N F m p ρ (8 * d + x) = P p d + zLw P N F m (p + 1) (zsub ρ (8 * d + x)) := by
          unfold zvw; rw [show (8 * d + x) / 8 = d by omega]
        rw [zbs g1, nI_1, zbs k1, nI_add]
        by_cases c2 : P p d + zLw P N F m (p + 1) (zsub ρ (8 * d + x)) = zLw P N F (m + 1) p ρ
        · have ex : zfx P N F m p ρ = 8 * d + x := zfw_eq (show 8 * d + x ≤ 40 by omega) inv (fun _ => ⟨ok, by rw [ez]; exact c2⟩)
          rw [if_pos (by rw [c2]), ex]
          have ch := e_choose (zWk_b3 w bg') (b.tr bg') hp (show d ≤ 5 by omega) hx8 (zRo_b2 g3 k3)
          obtain ⟨h2, q1, q2⟩ := ch
          exact ⟨h2, by rw [q1]; rfl, q2⟩
        · rw [if_neg (fun z => c2 ((nI_eq (by omega) (by omega)).mp z))]
          obtain ⟨g'', l1, l2, l3⟩ := e_give (zRo_b2 g3 k3) hρ hd hx8 ok
          rw [zbs l1, nI_1]
          exact next g'' (bg'.tr l2.b42) l3 (fun z => c2 (by rw [← ez]; exact z.2))
theorem e_st2 {h : zHp} {s n p m : Nat} {P : Nat → Nat → Nat} {N F ρ : Nat → Nat} (hm : p + (m + 1) = s) (hρ : ∀ j, j < 15 → ρ j ≤ 9) : ∀ c d f (h1 : zHp), d + c = 5 → c < f → zbu3 h h1 → zWk h1 s n P N F → zBo h1 s n N F → zRo h1 ρ → (∀ y, y < 8 * d → ¬ (zokb N F ρ p y = true ∧ zvw P N F m p ρ y = zLw P N F (m + 1) p ρ)) → zPost h P ρ p (zfx P N F m p ρ) (s_X8_settle_L2 f (nI p) (nI (zLw P N F (m + 1) p ρ)) (nI d) h1)
  | 0, d, f + 1, h1, hc, hf, b, w, bo, r, inv => by
    obtain rfl : d = 5 := by omega
    have ex : zfx P N F m p ρ = 8 * 5 + 0 := zfw_eq (Nat.le_refl 40) inv (fun z => absurd z (Nat.lt_irrefl 40))
    have ch := e_choose (h := h) (x := 0) (ρ := ρ) w b (show p < s by omega) (Nat.le_refl 5) (by decide) (by
      show zRo h1 (zsub ρ 40)
      rw [zsub_40]; exact r)
    obtain ⟨h2, q1, q2⟩ := ch
    rw [ex, s_X8_settle_L2, if_pos z55]
    refine ⟨h2, ?_, q2⟩
    rw [show (5 : Int32) = nI 5 from by decide, ← nI_0, q1]
    rfl
  | c + 1, d, f + 1, h1, hc, hf, b, w, bo, r, inv => by
    have hd : d < 5 := by omega
    have n8 := zp23 w.2.1.2
    have n1 := Nat.two_pow_pos n
    rw [s_X8_settle_L2, if_neg (z5le hd), zbs (e_price w (show p < s by omega) (by omega))]
    have := e_st1 (h := h) (m := m) hm hd hρ (s_X8_settle_L2 f) (fun h2 b2 w2 bo2 r2 inv2 => e_st2 hm hρ c (d + 1) f h2 (by omega) (by omega) b2 w2 bo2 r2 inv2) (2 ^ n - 1) 1 zFU h1 (by omega) (Nat.le_refl 1) (zFU_gt (by omega)) b w bo r (fun y hy => by
      by_cases e : y < 8 * d
      · exact inv y e
      · intro z
        have z2 := (zokb_iff.mp z.1).2.1.2.2
        rw [show y % 8 = 0 by omega, show zpc 0 = 0 from by decide] at z2
        have := (w.2.2.1 p (by omega)).2.2.1
        omega)
    exact this
theorem e_st3 {h0 : zHp} {s n : Nat} {P : Nat → Nat → Nat} {N F : Nat → Nat} (a1 : Int32) : ∀ m p f (h : zHp) (ρ : Nat → Nat), p + m = s → m < f → zWk h s n P N F → zBo h s n N F → zRo h ρ → (∀ k, k ≠ 40 → k ≠ 41 → k ≠ 42 → k ≠ 44 → k ≠ 45 → h.1 k = h0.1 k) → ∃ h2 : zHp, s_X8_settleAll_L14 f a1 (nI (zLw P N F m p ρ)) (nI p) h = some (a1, h2) ∧ (∀ k, k ≠ 40 → k ≠ 41 → k ≠ 42 → k ≠ 44 → k ≠ 45 → h2.1 k = h0.1 k) ∧ (∀ j, j < p → h2.1 40 j = h.1 40 j ∧ h2.1 41 j = h.1 41 j) ∧ (∀ j, p ≤ j → j < s → h2.1 40 j = nI (zgw P N F m p ρ j / 8) ∧ h2.1 41 j = nI (zgw P N F m p ρ j % 8))
  | 0, p, f + 1, h, ρ, hm, hf, w, bo, r, fr => by
    obtain rfl : p = s := by omega
    have hs := w.1.2
    refine ⟨h, ?_, fr, fun _ _ => ⟨rfl, rfl⟩, fun j h1 h2 => by omega⟩
    rw [s_X8_settleAll_L14, w.1.1, if_pos (nI_le (Nat.le_refl p) (by omega))]
  | m + 1, p, f + 1, h, ρ, hm, hf, w, bo, r, fr => by
    have hs := w.1.2
    have n1 := Nat.two_pow_pos n
    obtain ⟨g, g1, g2, g3, g4, g5, g6⟩ := e_st2 (h := h) (m := m) hm (fun j hj => (r j hj).2) 5 0 zFU h (by omega) (zFU_gt (by decide)) (zbu3.rf h) w bo r (fun y hy => by omega)
    have sp := zfx_spec P N F m p ρ
    unfold zvw at sp
    have wg : zWk g s n P N F := zWk_keep w (g2 35 (by decide) (by decide) (by decide) (by decide) (by decide)) (g2 37 (by decide) (by decide) (by decide) (by decide) (by decide)) (g2 38 (by decide) (by decide) (by decide) (by decide) (by decide)) (g2 39 (by decide) (by decide) (by decide) (by decide) (by decide))
    obtain ⟨g', k1, k2, k3, k4⟩ := e_st3 (h0 := h0) a1 m (p + 1) f g (zsub ρ (zfx P N F m p ρ)) (by omega) (by omega) wg (fun H hH M hM => by rw [g2 43 (by decide) (by decide) (by decide) (by decide) (by decide)]; exact bo H hH M hM) g4 (fun k x1 x2 x3 x4 x5 => by rw [g2 k x1 x2 x3 x4 x5]; exact fr k x1 x2 x3 x4 x5)
    refine ⟨g', ?_, k2, fun j hj => ?_, fun j h1 h2 => ?_⟩
    · rw [nI_0] at g1
      rw [s_X8_settleAll_L14, w.1.1, if_neg (nI_ge (show p < s by omega) (by omega))]
      unfold s_X8_settle
      rw [g1, zbs rfl, zbs rfl, pk_sub (by omega), nI_1, show zLw P N F (m + 1) p ρ - P p (zfx P N F m p ρ / 8) = zLw P N F m (p + 1) (zsub ρ (zfx P N F m p ρ)) by omega]
      exact k1
    · obtain ⟨a, b⟩ := k3 j (by omega)
      rw [a, b, g5, g6, pk_un (by omega), pk_un (by omega)]
      exact ⟨rfl, rfl⟩
    · rw [zgw]
      by_cases e : j = p
      · subst e
        obtain ⟨a, b⟩ := k3 j (by omega)
        rw [if_pos rfl, a, b, g5, g6, pk_us, pk_us]
        exact ⟨rfl, rfl⟩
      · rw [if_neg e]
        exact k4 j (by omega) h2
theorem e_settle {h : zHp} {s n : Nat} {P : Nat → Nat → Nat} {N F ρ : Nat → Nat} (w : zWk h s n P N F) (r : zRo h ρ) : ∃ h2 : zHp, s_X8_settleAll h = some (nI (zLw P N F s 0 ρ), h2) ∧ (∀ k, k ≠ 40 → k ≠ 41 → k ≠ 42 → k ≠ 43 → k ≠ 44 → k ≠ 45 → h2.1 k = h.1 k) ∧ (∀ j, j < s → h2.1 40 j = nI (zgw P N F s 0 ρ j / 8) ∧ h2.1 41 j = nI (zgw P N F s 0 ρ j % 8)) := by
  have hs := w.1.2
  obtain ⟨g, g1, g2, g3⟩ := e_fb w
  have wg : zWk g s n P N F := zWk_keep w (g2.1 35 (by decide)) (g2.1 37 (by decide)) (g2.1 38 (by decide)) (g2.1 39 (by decide))
  have rg : zRo g ρ := fun j hj => by rw [g2.1 42 (by decide)]; exact r j hj
  obtain ⟨g', k1, k2⟩ := e_least (i := 0) wg rg g3 (Nat.zero_le s)
  rw [nI_0, Nat.sub_zero] at k1
  obtain ⟨g'', l1, l2, l3, l4⟩ := e_st3 (h0 := g') (nI (zLw P N F s 0 ρ)) s 0 zFU g' ρ (by omega) (zFU_gt (by omega)) (zWk_b2 wg k2) (zBo_b2 g3 k2) (zRo_b2 rg k2) (fun _ _ _ _ _ _ => rfl)
  rw [nI_0] at l1
  refine ⟨g'', ?_, fun k x1 x2 x3 x4 x5 x6 => by rw [l2 k x1 x2 x3 x5 x6, k2.1 k x5 x6, g2.1 k x4], fun j hj => l4 j (Nat.zero_le j) hj⟩
  unfold s_X8_settleAll
  rw [g1, zbs rfl, k1, zbs rfl]
  exact l1

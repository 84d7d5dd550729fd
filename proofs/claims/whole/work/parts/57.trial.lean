/-! ===== whether stars helped: the class ===== -/
theorem zred {T B X L : Int} (hB : 0 < B) (hL : 0 < L) (e : T * L = X * B) : T.tdiv (Int.gcd T B) = X.tdiv (Int.gcd X L) ∧ B.tdiv (Int.gcd T B) = L.tdiv (Int.gcd X L) := by
  have g1 : 0 < Int.gcd T B := Int.gcd_pos_of_ne_zero_right T (by omega)
  have g2 : 0 < Int.gcd X L := Int.gcd_pos_of_ne_zero_right X (by omega)
  have k : (Int.gcd T B : Int) * L = (Int.gcd X L : Int) * B := by
    have h1 : Int.gcd (T * L) (B * L) = Int.gcd T B * L.natAbs := Int.gcd_mul_right T L B
    have h2 : Int.gcd (X * B) (L * B) = Int.gcd X L * B.natAbs := Int.gcd_mul_right X B L
    rw [e, Int.mul_comm B L, h2] at h1
    have h3 : ((Int.gcd X L * B.natAbs : Nat) : Int) = ((Int.gcd T B * L.natAbs : Nat) : Int) := by rw [h1]
    rw [Int.natCast_mul, Int.natCast_mul, show ((B.natAbs : Nat) : Int) = B from by omega, show ((L.natAbs : Nat) : Int) = L from by omega] at h3
    exact h3.symm
  obtain ⟨t, ht⟩ := Int.gcd_dvd_left T B
  obtain ⟨b, hb⟩ := Int.gcd_dvd_right T B
  obtain ⟨x, hx⟩ := Int.gcd_dvd_left X L
  obtain ⟨l, hl⟩ := Int.gcd_dvd_right X L
  generalize Int.gcd T B = u at *
  generalize Int.gcd X L = v at *
  have hu : (u : Int) ≠ 0 := by omega
  have hv : (v : Int) ≠ 0 := by omega
  subst ht hb hx hl
  rw [Int.mul_tdiv_cancel_left _ hu, Int.mul_tdiv_cancel_left _ hv, Int.mul_tdiv_cancel_left _ hu, Int.mul_tdiv_cancel_left _ hv]
  have e1 : b = l := by
    have k2 : ((u : Int) * v) * l = ((u : Int) * v) * b := by
      rw [Int.mul_assoc, k]
      ac_rfl
    exact (Int.eq_of_mul_eq_mul_left (Int.mul_ne_zero hu hv) k2).symm
  subst e1
  have hb0 : b ≠ 0 := fun z => by rw [z, Int.mul_zero] at hB; omega
  refine ⟨?_, rfl⟩
  have k3 : ((u : Int) * v * b) * t = ((u : Int) * v * b) * x := by
    have e2 : (u : Int) * t * (↑v * b) = ↑v * x * (↑u * b) := e
    calc ((u : Int) * v * b) * t = (u : Int) * t * (↑v * b) := by ac_rfl
      _ = ↑v * x * (↑u * b) := e2
      _ = ((u : Int) * v * b) * x := by ac_rfl
  exact Int.eq_of_mul_eq_mul_left (Int.mul_ne_zero (Int.mul_ne_zero hu hv) hb0) k3
theorem zna_mul {x y : Int} {X Y : Nat} (hx : x.natAbs ≤ X) (hy : y.natAbs ≤ Y) : (x * y).natAbs ≤ X * Y := by
  rw [Int.natAbs_mul]; exact Nat.mul_le_mul hx hy
theorem zBna {x : Int} {X : Nat} (h : x.natAbs ≤ X) (hX : X < 9223372036854775808) : zB x := ⟨by omega, by omega⟩
/-- cases ahead of a month -/
def zca (c : Nat → Nat) (s : Nat) : Nat → Int
  | 0 => 0
  | m + 1 => zca c s m + (c (12 * s + m) : Nat)
def zrsM (c : Nat → Nat) (s m : Nat) : Int := (zca c s 12 - zca c s m) * (27720 / (12 - m) : Nat) - zca c s m * (27720 / m : Nat)
def znr (c D : Nat → Nat) (m : Nat) : Nat → Int
  | 0 => 0
  | n + 1 => znr c D m n + if D n = 12 then zrsM c n m else 0
def zstd (m : Nat) : Bool := decide (1 ≤ m) && decide (m ≤ 11)
def znv (m : Nat) : Bool := decide (m = 12)
def zef (c D : Nat → Nat) (N : Nat) : Nat → Int
  | 0 => 0
  | s + 1 => zef c D N s + if zstd (D s) then N * zrsM c s (D s) - znr c D (D s) 6 else 0
theorem zstd_iff {m : Nat} : zstd m = true ↔ 1 ≤ m ∧ m ≤ 11 := by unfold zstd; rw [Bool.and_eq_true, decide_eq_true_iff, decide_eq_true_iff]
theorem zca_rng {c : Nat → Nat} (hc : ∀ r, r < 72 → c r ≤ 999) {s : Nat} (hs : s < 6) : ∀ m, m ≤ 12 → 0 ≤ zca c s m ∧ zca c s m ≤ 999 * m
  | 0, _ => ⟨Int.le_refl _, Int.le_refl _⟩
  | m + 1, h => by
    have ih := zca_rng hc hs m (by omega)
    have := hc (12 * s + m) (by omega)
    rw [zca]
    omega
theorem zca_mono {c : Nat → Nat} {s : Nat} : ∀ n m, zca c s m ≤ zca c s (m + n)
  | 0, m => Int.le_refl _
  | n + 1, m => by
    have ih := zca_mono (c := c) (s := s) n m
    rw [← Nat.add_assoc, zca]
    omega
theorem zrsM_rng {c : Nat → Nat} (hc : ∀ r, r < 72 → c r ≤ 999) {s m : Nat} (hs : s < 6) (h1 : 1 ≤ m) (h2 : m ≤ 11) : (zrsM c s m).natAbs ≤ 700000000 := by
  have a := zca_rng hc hs 12 (by omega)
  have b := zca_rng hc hs m (by omega)
  have d := zca_mono (c := c) (s := s) (12 - m) m
  rw [show m + (12 - m) = 12 from by omega] at d
  have e1 : 27720 / (12 - m) ≤ 27720 := Nat.div_le_self _ _
  have e2 : 27720 / m ≤ 27720 := Nat.div_le_self _ _
  have f1 := zna_mul (x := zca c s 12 - zca c s m) (y := (27720 / (12 - m) : Nat)) (X := 11988) (Y := 27720) (by omega) (by rw [Int.natAbs_natCast]; exact e1)
  have f2 := zna_mul (x := zca c s m) (y := (27720 / m : Nat)) (X := 11988) (Y := 27720) (by omega) (by rw [Int.natAbs_natCast]; exact e2)
  unfold zrsM
  omega
theorem znr_rng {c D : Nat → Nat} (hc : ∀ r, r < 72 → c r ≤ 999) {m : Nat} (h1 : 1 ≤ m) (h2 : m ≤ 11) : ∀ n, n ≤ 6 → (znr c D m n).natAbs ≤ 700000000 * n
  | 0, _ => Nat.le_refl _
  | n + 1, h => by
    have ih := znr_rng (D := D) hc h1 h2 n (by omega)
    have := zrsM_rng hc (show n < 6 by omega) h1 h2
    rw [znr]
    split <;> omega
theorem zef_rng {c D : Nat → Nat} (hc : ∀ r, r < 72 → c r ≤ 999) {N : Nat} (hN : N ≤ 6) : ∀ n, n ≤ 6 → (zef c D N n).natAbs ≤ 8400000000 * n
  | 0, _ => Nat.le_refl _
  | n + 1, h => by
    have ih := zef_rng (D := D) hc hN n (by omega)
    rw [zef]
    split
    · next e =>
      rw [zstd_iff] at e
      have q1 := zrsM_rng hc (show n < 6 by omega) e.1 e.2
      have q2 := znr_rng (D := D) hc e.1 e.2 6 (Nat.le_refl 6)
      have q3 := zna_mul (x := (N : Int)) (y := zrsM c n (D n)) (X := 6) (Y := 700000000) (by omega) q1
      omega
    · omega
def zTC (h : zHp) (c b : Nat → Nat) : Prop := (∀ j, j < 6 → h.1 60 j = nI (b j) ∧ b j ≤ 12) ∧ (∀ r, r < 72 → h.1 61 r = nI (c r) ∧ c r ≤ 999)
theorem zTC_of {h : zHp} (hr : zIr h) : zTC h (fun r => (h.1 61 r).toNatClampNeg) (fun j => (h.1 60 j).toNatClampNeg) := by
  refine ⟨fun j hj => ?_, fun r hr2 => ?_⟩
  · obtain ⟨m, m1, m2⟩ := hr.2.1 j hj
    simp only [m2]
    rw [nI_clamp (by omega)]
    exact ⟨rfl, m1⟩
  · obtain ⟨m, m1, m2⟩ := hr.2.2 r hr2
    simp only [m2]
    rw [nI_clamp (by omega)]
    exact ⟨rfl, m1⟩
theorem z6le {s : Nat} (hs : s < 6) : ¬ (6 : Int32) ≤ nI s := nI_ge (b := 6) hs (by decide)
theorem z12le {s : Nat} (hs : s < 12) : ¬ (12 : Int32) ≤ nI s := nI_ge (b := 12) hs (by decide)
theorem z66 : (6 : Int32) ≤ nI 6 := by decide
theorem z1212 : (12 : Int32) ≤ nI 12 := by decide
theorem z12eq {m : Nat} (hm : m ≤ 12) : nI m = 12 ↔ m = 12 := nI_eq (b := 12) (by omega) (by decide)
theorem e_std {m : Nat} {h : zHp} (hm : m ≤ 12) : s_X7_isStarted (nI m) h = some (if zstd m then 1 else 0, h) := by
  unfold s_X7_isStarted s_X7_isStarted_L14 s_X7_isStarted_L15
  by_cases c1 : m = 0
  · subst c1; rw [nI_0, if_pos (by decide), zbs zbo0]; rfl
  by_cases c2 : m = 12
  · subst c2; rw [if_neg (nI_nle (by omega) (by omega)), if_pos (by decide), zbs zbo0]; rfl
  rw [if_neg (nI_nle (by omega) (by omega)), if_neg (z12le (show m < 12 by omega)), zbs zbo1, if_pos (zstd_iff.mpr ⟨by omega, by omega⟩)]
theorem e_started1 {h : zHp} {c b : Nat → Nat} (H : zTC h c b) : ∀ m s f, s + m = 6 → m < f → s_X7_startedSize_L4 f (nI (zcn (fun i => zstd (b i)) s)) (nI s) h = some (nI (zcn (fun i => zstd (b i)) 6), h)
  | 0, s, f + 1, hm, hf => by
    obtain rfl : s = 6 := by omega
    simp only [s_X7_startedSize_L4, z66, reduceIte]
  | m + 1, s, f + 1, hm, hf => by
    have ih := e_started1 H m (s + 1) f (by omega) (by omega)
    obtain ⟨b1, b2⟩ := H.1 s (by omega)
    simp only [s_X7_startedSize_L4, s_X7_startedSize_L25, z6le (show s < 6 by omega), reduceIte, zriA (show s < 6 by omega) (by decide), Option.bind_some, b1, e_std b2, nI_1]
    rw [zcn] at ih
    cases e : zstd (b s)
    · rw [e] at ih
      simp only [Bool.false_eq_true, reduceIte, Nat.add_zero] at ih ⊢
      exact ih
    · rw [e] at ih
      simp only [reduceIte, z10] at ih ⊢
      exact ih
theorem e_started {h : zHp} {c b : Nat → Nat} (H : zTC h c b) : s_X7_startedSize h = some (nI (zcn (fun i => zstd (b i)) 6), h) := e_started1 H 6 0 zFU (by omega) (zFU_gt (by decide))
theorem e_never1 {h : zHp} {c b : Nat → Nat} (H : zTC h c b) : ∀ m s f, s + m = 6 → m < f → s_X7_neverSize_L4 f (nI (zcn (fun i => znv (b i)) s)) (nI s) h = some (nI (zcn (fun i => znv (b i)) 6), h)
  | 0, s, f + 1, hm, hf => by
    obtain rfl : s = 6 := by omega
    simp only [s_X7_neverSize_L4, z66, reduceIte]
  | m + 1, s, f + 1, hm, hf => by
    have ih := e_never1 H m (s + 1) f (by omega) (by omega)
    obtain ⟨b1, b2⟩ := H.1 s (by omega)
    simp only [s_X7_neverSize_L4, s_X7_neverSize_L24, z6le (show s < 6 by omega), reduceIte, zriA (show s < 6 by omega) (by decide), Option.bind_some, b1, z12eq b2, nI_1]
    rw [zcn] at ih
    by_cases e : b s = 12
    · rw [show znv (b s) = true from decide_eq_true e] at ih
      simp only [reduceIte] at ih
      rw [if_pos e]
      exact ih
    · rw [show znv (b s) = false from decide_eq_false e] at ih
      simp only [Bool.false_eq_true, reduceIte, Nat.add_zero] at ih
      rw [if_neg e]
      exact ih
theorem e_never {h : zHp} {c b : Nat → Nat} (H : zTC h c b) : s_X7_neverSize h = some (nI (zcn (fun i => znv (b i)) 6), h) := e_never1 H 6 0 zFU (by omega) (zFU_gt (by decide))
theorem zcn_le (p : Nat → Bool) : ∀ n, zcn p n ≤ n
  | 0 => Nat.le_refl _
  | n + 1 => by
    have := zcn_le p n
    rw [zcn]
    split <;> omega
theorem e_has {h : zHp} {c b : Nat → Nat} (H : zTC h c b) : s_X7_hasEffect h = some (if 0 < zcn (fun i => znv (b i)) 6 ∧ 0 < zcn (fun i => zstd (b i)) 6 then 1 else 0, h) := by
  have l1 := zcn_le (fun i => znv (b i)) 6
  have l2 := zcn_le (fun i => zstd (b i)) 6
  unfold s_X7_hasEffect s_X7_hasEffect_L18 s_X7_hasEffect_L19
  rw [e_started H, zbs rfl]
  by_cases c1 : 0 < zcn (fun i => zstd (b i)) 6
  · rw [if_neg (nI_nle c1 (by omega)), e_never H, zbs rfl]
    by_cases c2 : 0 < zcn (fun i => znv (b i)) 6
    · rw [if_neg (nI_nle c2 (by omega)), zbs zbo1, if_pos ⟨c2, c1⟩]
    · have z : zcn (fun i => znv (b i)) 6 = 0 := by omega
      rw [show (if 0 < zcn (fun i => znv (b i)) 6 ∧ 0 < zcn (fun i => zstd (b i)) 6 then (1 : Int32) else 0) = 0 from if_neg (fun z => c2 z.1)]
      simp only [z, nI_0, show (0 : Int32) ≤ 0 from by decide, reduceIte, zbo0, Option.bind_some]
  · have z : zcn (fun i => zstd (b i)) 6 = 0 := by omega
    rw [show (if 0 < zcn (fun i => znv (b i)) 6 ∧ 0 < zcn (fun i => zstd (b i)) 6 then (1 : Int32) else 0) = 0 from if_neg (fun z => c1 z.2)]
    simp only [z, nI_0, show (0 : Int32) ≤ 0 from by decide, reduceIte, zbo0, Option.bind_some]
def zgl (h : zHp) (k : Nat) (F : Nat → Int64) : zHp := (h.1, va_up h.2 k F)
theorem zgl_wl (h : zHp) (k : Nat) (F : Nat → Int64) (g : Nat) (x : Int64) : zwl (zgl h k F) k g x = zgl h k (vp_updL F g x) := by
  unfold zwl zgl
  congr 1
  funext a
  by_cases c : a = k
  · simp [va_up, c]
  · simp [va_up, c]
theorem zgl_at (h : zHp) (k : Nat) (F : Nat → Int64) : (zgl h k F).2 k = F := by simp [zgl, va_up]
theorem zgl_ne (h : zHp) {k a : Nat} (F : Nat → Int64) (ha : a ≠ k) : (zgl h k F).2 a = h.2 a := by simp [zgl, va_up, ha]
theorem zgl_id (h : zHp) (k : Nat) : zgl h k (h.2 k) = h := by
  unfold zgl
  congr 1
  funext a
  by_cases c : a = k
  · simp [va_up, c]
  · simp [va_up, c]
theorem e_rise1 {h : zHp} {c b : Nat → Nat} (H : zTC h c b) (k2 : Int32 → zHp → Option zHp) {s : Nat} (hs : s < 6) : ∀ m mo f (R : Nat → Int64), mo + m = 12 → 1 ≤ mo → m < f → (∀ s' m', s' < s → 1 ≤ m' → m' ≤ 11 → R (12 * s' + m') = lI (zrsM c s' m')) → (∀ m', 1 ≤ m' → m' < mo → R (12 * s + m') = lI (zrsM c s m')) → ∃ R' : Nat → Int64, (∀ s' m', s' < s + 1 → 1 ≤ m' → m' ≤ 11 → R' (12 * s' + m') = lI (zrsM c s' m')) ∧ s_X7_fillRises_L57 k2 f (nI s) (lI (zca c s 12)) (lI (zca c s mo)) (nI mo) (zgl h 62 R) = k2 (nI (s + 1)) (zgl h 62 R')
  | 0, mo, f + 1, R, hm, h1, hf, i1, i2 => by
    obtain rfl : mo = 12 := by omega
    refine ⟨R, fun s' m' a1 a2 a3 => ?_, ?_⟩
    · by_cases e : s' = s
      · subst e; exact i2 m' a2 (by omega)
      · exact i1 s' m' (by omega) a2 a3
    · simp only [s_X7_fillRises_L57, z1212, reduceIte, nI_1]
  | m + 1, mo, f + 1, R, hm, h1, hf, i1, i2 => by
    obtain ⟨c1, c2⟩ := H.2 (12 * s + mo) (by omega)
    obtain ⟨R', r1, r2⟩ := e_rise1 H k2 hs m (mo + 1) f (vp_updL R (12 * s + mo) (lI (zrsM c s mo))) (by omega) (by omega) (by omega) (fun s' m' a1 a2 a3 => by
      rw [pk_uLn (by omega)]; exact i1 s' m' a1 a2 a3) (fun m' a1 a2 => by
      by_cases e : m' = mo
      · subst e; rw [pk_uLs]
      · rw [pk_uLn (by omega)]; exact i2 m' a1 (by omega))
    refine ⟨R', r1, ?_⟩
    have d1 : zldiv (27720 : Int64) ((12 : Int32) - nI mo).toInt64 = some (lI ((27720 / (12 - mo) : Nat) : Int)) := by
      rw [show (12 : Int32) = nI 12 from by decide, pk_sub (by omega), lI_nI (by omega), show (27720 : Int64) = lI ((27720 : Nat) : Int) from by decide +kernel, zldivI ⟨by omega, by omega⟩ ⟨by omega, by omega⟩ (by omega)]
      rfl
    have d2 : zldiv (27720 : Int64) (nI mo).toInt64 = some (lI ((27720 / mo : Nat) : Int)) := by
      rw [lI_nI (by omega), show (27720 : Int64) = lI ((27720 : Nat) : Int) from by decide +kernel, zldivI ⟨by omega, by omega⟩ ⟨by omega, by omega⟩ (by omega)]
      rfl
    have u1 : ∀ x, zuj (zgl h 62 R) 62 72 (nI (12 * s + mo)) x = some (zgl h 62 (vp_updL R (12 * s + mo) x)) := fun x => by
      rw [zuj_ok (by omega) (by decide), zgl_wl]
    have e12 : nI s * (12 : Int32) + nI mo = nI (12 * s + mo) := zix12.1
    simp only [s_X7_fillRises_L57, z12le (show mo < 12 by omega), reduceIte, Option.bind_some, d1, d2, e12, lI_sub, lI_mul, u1, zriA (show 12 * s + mo < 72 by omega) (by decide), nI_1]
    rw [show (zgl h 62 (vp_updL R (12 * s + mo) (lI ((zca c s 12 - zca c s mo) * ↑(27720 / (12 - mo)) - zca c s mo * ↑(27720 / mo))))).1 61 (12 * s + mo) = h.1 61 (12 * s + mo) from rfl, c1, lI_nI (by omega), lI_add]
    exact r2
theorem e_rise2 {h : zHp} {c b : Nat → Nat} (H : zTC h c b) (k2 : Int32 → zHp → Option zHp) {s : Nat} (hs : s < 6) (R : Nat → Int64) : ∀ m mo f, mo + m = 12 → m < f → s_X7_fillRises_L13 k2 f (nI s) (lI (zca c s mo)) (nI mo) (zgl h 62 R) = s_X7_fillRises_L57 k2 zFU (nI s) (lI (zca c s 12)) (lI (zca c s 1)) 1 (zgl h 62 R)
  | 0, mo, f + 1, hm, hf => by
    obtain rfl : mo = 12 := by omega
    obtain ⟨c1, c2⟩ := H.2 (12 * s) (by omega)
    have e12 : nI s * (12 : Int32) = nI (12 * s) := by rw [show (12 : Int32) = nI 12 from by decide, pk_mul, Nat.mul_comm]
    have e1 : ((zgl h 62 R).1 61 (12 * s)).toInt64 = lI (zca c s 1) := by
      rw [show (zgl h 62 R).1 61 (12 * s) = h.1 61 (12 * s) from rfl, c1, lI_nI (by omega)]
      exact congrArg lI (Int.zero_add _).symm
    unfold s_X7_fillRises_L13
    rw [if_pos z1212, e12, zbs (zriA (show 12 * s < 72 by omega) (by decide) _ 61), e1]
  | m + 1, mo, f + 1, hm, hf => by
    have ih := e_rise2 H k2 hs R m (mo + 1) f (by omega) (by omega)
    obtain ⟨c1, c2⟩ := H.2 (12 * s + mo) (by omega)
    have e12 : nI s * (12 : Int32) + nI mo = nI (12 * s + mo) := zix12.1
    simp only [s_X7_fillRises_L13, z12le (show mo < 12 by omega), reduceIte, e12, zriA (show 12 * s + mo < 72 by omega) (by decide), Option.bind_some, nI_1]
    rw [show (zgl h 62 R).1 61 (12 * s + mo) = h.1 61 (12 * s + mo) from rfl, c1, lI_nI (by omega), lI_add]
    rw [show zca c s (mo + 1) = zca c s mo + (c (12 * s + mo) : Nat) from rfl] at ih
    exact ih
theorem e_rise3 {h : zHp} {c b : Nat → Nat} (H : zTC h c b) : ∀ m s f (R : Nat → Int64), s + m = 6 → m < f → (∀ s' m', s' < s → 1 ≤ m' → m' ≤ 11 → R (12 * s' + m') = lI (zrsM c s' m')) → ∃ R' : Nat → Int64, (∀ s' m', s' < 6 → 1 ≤ m' → m' ≤ 11 → R' (12 * s' + m') = lI (zrsM c s' m')) ∧ s_X7_fillRises_L2 f (nI s) (zgl h 62 R) = some (zgl h 62 R')
  | 0, s, f + 1, R, hm, hf, i1 => by
    obtain rfl : s = 6 := by omega
    refine ⟨R, i1, ?_⟩
    simp only [s_X7_fillRises_L2, z66, reduceIte]
  | m + 1, s, f + 1, R, hm, hf, i1 => by
    have h1 := e_rise2 H (s_X7_fillRises_L2 f) (show s < 6 by omega) R 12 0 zFU (by omega) (zFU_gt (by decide))
    obtain ⟨R1, r1, r2⟩ := e_rise1 H (s_X7_fillRises_L2 f) (show s < 6 by omega) 11 1 zFU R (by omega) (by omega) (zFU_gt (by decide)) i1 (fun m' a1 a2 => by omega)
    obtain ⟨R2, q1, q2⟩ := e_rise3 H m (s + 1) f R1 (by omega) (by omega) r1
    refine ⟨R2, q1, ?_⟩
    simp only [s_X7_fillRises_L2, z6le (show s < 6 by omega), reduceIte]
    rw [nI_0, show lI (zca c s 0) = 0 from lI_0] at h1
    rw [h1]
    rw [show nI 1 = 1 from by decide] at r2
    rw [r2, q2]
/-- the rises lie in their row -/
def zRi (h : zHp) (c : Nat → Nat) : Prop := ∀ s m, s < 6 → 1 ≤ m → m ≤ 11 → h.2 62 (12 * s + m) = lI (zrsM c s m)
theorem e_rises {h : zHp} {c b : Nat → Nat} (H : zTC h c b) : ∃ h1 : zHp, s_X7_fillRises h = some h1 ∧ h1.1 = h.1 ∧ zRi h1 c := by
  obtain ⟨R, r1, r2⟩ := e_rise3 H 6 0 zFU (h.2 62) (by omega) (zFU_gt (by decide)) (fun s' m' a1 a2 a3 => by omega)
  rw [zgl_id, nI_0] at r2
  refine ⟨zgl h 62 R, r2, rfl, fun s m a1 a2 a3 => ?_⟩
  rw [zgl_at]
  exact r1 s m a1 a2 a3
theorem e_nrise1_60 {h : zHp} {c D : Nat → Nat} (hD : ∀ j, j < 6 → h.1 60 j = nI (D j) ∧ D j ≤ 12) (hR : zRi h c) {mo : Nat} (h1 : 1 ≤ mo) (h2 : mo ≤ 11) : ∀ m s f, s + m = 6 → m < f → s_X7_neverRise_60_L5 f (nI mo) (lI (znr c D mo s)) (nI s) h = some (lI (znr c D mo 6), h)
  | 0, s, f + 1, hm, hf => by
    obtain rfl : s = 6 := by omega
    simp only [s_X7_neverRise_60_L5, z66, reduceIte]
  | m + 1, s, f + 1, hm, hf => by
    have ih := e_nrise1_60 hD hR h1 h2 m (s + 1) f (by omega) (by omega)
    obtain ⟨b1, b2⟩ := hD s (by omega)
    have e12 : nI s * (12 : Int32) + nI mo = nI (12 * s + mo) := zix12.1
    simp only [s_X7_neverRise_60_L5, s_X7_neverRise_60_L36, z6le (show s < 6 by omega), reduceIte, zriA (show s < 6 by omega) (by decide), Option.bind_some, b1, z12eq b2, nI_1, e12, zrj_ok (show 12 * s + mo < 72 by omega) (by decide), hR s mo (by omega) h1 h2, lI_add]
    rw [znr] at ih
    by_cases e : D s = 12
    · rw [if_pos e] at ih ⊢; exact ih
    · rw [if_neg e, Int.add_zero] at ih
      rw [if_neg e]; exact ih
theorem e_effby1_60 {h : zHp} {c D : Nat → Nat} (hD : ∀ j, j < 6 → h.1 60 j = nI (D j) ∧ D j ≤ 12) (hR : zRi h c) {N : Nat} (hN : N ≤ 6) : ∀ m s f, s + m = 6 → m < f → s_X7_effectBy_60_L10 f (nI N) (lI (zef c D N s)) (nI s) h = some (lI (zef c D N 6), h)
  | 0, s, f + 1, hm, hf => by
    obtain rfl : s = 6 := by omega
    simp only [s_X7_effectBy_60_L10, z66, reduceIte]
  | m + 1, s, f + 1, hm, hf => by
    have ih := e_effby1_60 hD hR hN m (s + 1) f (by omega) (by omega)
    obtain ⟨b1, b2⟩ := hD s (by omega)
    have e12 : nI s * (12 : Int32) + nI (D s) = nI (12 * s + D s) := zix12.1
    rw [zef] at ih
    cases e : zstd (D s)
    · rw [e] at ih
      simp only [Bool.false_eq_true, reduceIte, Int.add_zero] at ih
      simp only [s_X7_effectBy_60_L10, s_X7_effectBy_60_L58, z6le (show s < 6 by omega), reduceIte, zriA (show s < 6 by omega) (by decide), Option.bind_some, b1, e_std b2, e, Bool.false_eq_true, nI_1]
      exact ih
    · have e' := zstd_iff.mp e
      have nr := e_nrise1_60 hD hR e'.1 e'.2 6 0 zFU (by omega) (zFU_gt (by decide))
      rw [show lI (znr c D (D s) 0) = 0 from lI_0, nI_0] at nr
      rw [e] at ih
      simp only [reduceIte] at ih
      simp only [s_X7_effectBy_60_L10, s_X7_effectBy_60_L58, z6le (show s < 6 by omega), reduceIte, zriA (show s < 6 by omega) (by decide), Option.bind_some, b1, e_std b2, e, z10, e12, zrj_ok (show 12 * s + D s < 72 by omega) (by decide), hR s (D s) (by omega) e'.1 e'.2, s_X7_neverRise_60, nr, lI_nI (show N < 2 ^ 31 by omega), lI_mul, lI_sub, lI_add, nI_1]
      exact ih
theorem e_effby_60 {h : zHp} {c b D : Nat → Nat} (H : zTC h c b) (hD : ∀ j, j < 6 → h.1 60 j = nI (D j) ∧ D j ≤ 12) (hR : zRi h c) : s_X7_effectBy_60 h = some (lI (zef c D (zcn (fun i => znv (b i)) 6) 6), h) := by
  have hN := zcn_le (fun i => znv (b i)) 6
  have q := e_effby1_60 hD hR hN 6 0 zFU (by omega) (zFU_gt (by decide))
  unfold s_X7_effectBy_60
  rw [e_never H, zbs rfl]
  rw [show lI (zef c D (zcn (fun i => znv (b i)) 6) 0) = 0 from lI_0, nI_0] at q
  exact q
theorem e_nrise1_64 {h : zHp} {c D : Nat → Nat} (hD : ∀ j, j < 6 → h.1 64 j = nI (D j) ∧ D j ≤ 12) (hR : zRi h c) {mo : Nat} (h1 : 1 ≤ mo) (h2 : mo ≤ 11) : ∀ m s f, s + m = 6 → m < f → s_X7_neverRise_64_L5 f (nI mo) (lI (znr c D mo s)) (nI s) h = some (lI (znr c D mo 6), h)
  | 0, s, f + 1, hm, hf => by
    obtain rfl : s = 6 := by omega
    simp only [s_X7_neverRise_64_L5, z66, reduceIte]
  | m + 1, s, f + 1, hm, hf => by
    have ih := e_nrise1_64 hD hR h1 h2 m (s + 1) f (by omega) (by omega)
    obtain ⟨b1, b2⟩ := hD s (by omega)
    have e12 : nI s * (12 : Int32) + nI mo = nI (12 * s + mo) := zix12.1
    simp only [s_X7_neverRise_64_L5, s_X7_neverRise_64_L36, z6le (show s < 6 by omega), reduceIte, zriA (show s < 6 by omega) (by decide), Option.bind_some, b1, z12eq b2, nI_1, e12, zrj_ok (show 12 * s + mo < 72 by omega) (by decide), hR s mo (by omega) h1 h2, lI_add]
    rw [znr] at ih
    by_cases e : D s = 12
    · rw [if_pos e] at ih ⊢; exact ih
    · rw [if_neg e, Int.add_zero] at ih
      rw [if_neg e]; exact ih
theorem e_effby1_64 {h : zHp} {c D : Nat → Nat} (hD : ∀ j, j < 6 → h.1 64 j = nI (D j) ∧ D j ≤ 12) (hR : zRi h c) {N : Nat} (hN : N ≤ 6) : ∀ m s f, s + m = 6 → m < f → s_X7_effectBy_64_L10 f (nI N) (lI (zef c D N s)) (nI s) h = some (lI (zef c D N 6), h)
  | 0, s, f + 1, hm, hf => by
    obtain rfl : s = 6 := by omega
    simp only [s_X7_effectBy_64_L10, z66, reduceIte]
  | m + 1, s, f + 1, hm, hf => by
    have ih := e_effby1_64 hD hR hN m (s + 1) f (by omega) (by omega)
    obtain ⟨b1, b2⟩ := hD s (by omega)
    have e12 : nI s * (12 : Int32) + nI (D s) = nI (12 * s + D s) := zix12.1
    rw [zef] at ih
    cases e : zstd (D s)
    · rw [e] at ih
      simp only [Bool.false_eq_true, reduceIte, Int.add_zero] at ih
      simp only [s_X7_effectBy_64_L10, s_X7_effectBy_64_L58, z6le (show s < 6 by omega), reduceIte, zriA (show s < 6 by omega) (by decide), Option.bind_some, b1, e_std b2, e, Bool.false_eq_true, nI_1]
      exact ih
    · have e' := zstd_iff.mp e
      have nr := e_nrise1_64 hD hR e'.1 e'.2 6 0 zFU (by omega) (zFU_gt (by decide))
      rw [show lI (znr c D (D s) 0) = 0 from lI_0, nI_0] at nr
      rw [e] at ih
      simp only [reduceIte] at ih
      simp only [s_X7_effectBy_64_L10, s_X7_effectBy_64_L58, z6le (show s < 6 by omega), reduceIte, zriA (show s < 6 by omega) (by decide), Option.bind_some, b1, e_std b2, e, z10, e12, zrj_ok (show 12 * s + D s < 72 by omega) (by decide), hR s (D s) (by omega) e'.1 e'.2, s_X7_neverRise_64, nr, lI_nI (show N < 2 ^ 31 by omega), lI_mul, lI_sub, lI_add, nI_1]
      exact ih
theorem e_effby_64 {h : zHp} {c b D : Nat → Nat} (H : zTC h c b) (hD : ∀ j, j < 6 → h.1 64 j = nI (D j) ∧ D j ≤ 12) (hR : zRi h c) : s_X7_effectBy_64 h = some (lI (zef c D (zcn (fun i => znv (b i)) 6) 6), h) := by
  have hN := zcn_le (fun i => znv (b i)) 6
  have q := e_effby1_64 hD hR hN 6 0 zFU (by omega) (zFU_gt (by decide))
  unfold s_X7_effectBy_64
  rw [e_never H, zbs rfl]
  rw [show lI (zef c D (zcn (fun i => znv (b i)) 6) 0) = 0 from lI_0, nI_0] at q
  exact q
theorem zbq1 {α : Type} (x : Option α) : (x.bind fun q => some q) = x := by cases x <;> rfl
/-- the fraction in its lowest terms -/
theorem e_true {h : zHp} {c b : Nat → Nat} (H : zTC h c b) (h1 : 0 < zcn (fun i => znv (b i)) 6) (h2 : 0 < zcn (fun i => zstd (b i)) 6) : ∃ h' : zHp, s_X7_trueEffect h = some h' ∧ h'.1 = h.1 ∧ h'.2 65 0 = lI ((zef c b (zcn (fun i => znv (b i)) 6) 6).tdiv (Int.gcd (zef c b (zcn (fun i => znv (b i)) 6) 6) (27720 * (zcn (fun i => znv (b i)) 6 : Int) * (zcn (fun i => zstd (b i)) 6 : Int)))) ∧ h'.2 65 1 = lI ((27720 * (zcn (fun i => znv (b i)) 6 : Int) * (zcn (fun i => zstd (b i)) 6 : Int)).tdiv (Int.gcd (zef c b (zcn (fun i => znv (b i)) 6) 6) (27720 * (zcn (fun i => znv (b i)) 6 : Int) * (zcn (fun i => zstd (b i)) 6 : Int)))) := by
  obtain ⟨g, g1, g2, g3⟩ := e_rises H
  have H' : zTC g c b := by unfold zTC; rw [g2]; exact H
  have ef := e_effby_60 H' H'.1 g3
  have l1 := zcn_le (fun i => znv (b i)) 6
  have l2 := zcn_le (fun i => zstd (b i)) 6
  have er := zef_rng (c := c) (D := b) (fun r hr => (H.2 r hr).2) l1 6 (Nat.le_refl 6)
  have en := e_never H'
  have es := e_started H'
  generalize zcn (fun i => znv (b i)) 6 = N at *
  generalize zcn (fun i => zstd (b i)) 6 = S at *
  have p0 : (0 : Int) < 27720 * (N : Int) * (S : Int) := Int.mul_pos (by omega) (by omega)
  have p1 := zna_mul (x := 27720 * (N : Int)) (y := (S : Int)) (X := 166320) (Y := 6) (by omega) (by omega)
  have ep := e_put_65 (h := g) (zBna er (by decide)) (zBna p1 (by decide)) p0
  have st : s_X7_trueEffect h = s_X2_put_65 (lI (zef c b N 6)) (lI (27720 * (N : Int) * (S : Int))) g := by
    simp only [s_X7_trueEffect, g1, Option.bind_some, ef, en, es, lI_nI (show N < 2 ^ 31 by omega), lI_nI (show S < 2 ^ 31 by omega), show (27720 : Int64) = lI 27720 from by decide +kernel, lI_mul, zbq1]
  exact ⟨_, st.trans ep, g2, zwl2.1, zwl2.2⟩

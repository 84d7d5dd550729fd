/-! ===== open days ===== -/
def zshu (F E : Nat → Nat) (d : Nat) : Nat → Bool
  | 0 => false
  | n + 1 => zshu F E d n || (decide (F n ≤ d) && decide (d ≤ E n))
def zpast (F E : Nat → Nat) (d : Nat) : Nat → Nat
  | 0 => d
  | n + 1 => if F n ≤ d ∧ zpast F E d n ≤ E n then E n + 1 else zpast F E d n
def znext (F : Nat → Nat) (d : Nat) : Nat → Nat
  | 0 => 1501
  | n + 1 => if d < F n ∧ F n < znext F d n then F n else znext F d n
def zmu (F E : Nat → Nat) (d : Nat) : Nat → Nat
  | 0 => 0
  | n + 1 => zmu F E d n + (if d < F n then 1 else 0) + (if d ≤ E n then 1 else 0)
def zoc (S : Nat → Bool) : Nat → Nat → Nat
  | _, 0 => 0
  | d, m + 1 => (if S d then 0 else 1) + zoc S (d + 1) m
theorem zoc_shut (S : Nat → Bool) : ∀ k d m, (∀ x, d ≤ x → x < d + k → S x = true) → zoc S d m = zoc S (d + k) (m - k)
  | 0, d, m, _ => rfl
  | k + 1, d, 0, h => by
    rw [Nat.zero_sub]; rfl
  | k + 1, d, m + 1, h => by
    have ih := zoc_shut S k (d + 1) m (fun x a b => h x (by omega) (by omega))
    rw [zoc, if_pos (h d (by omega) (by omega)), ih, show d + 1 + k = d + (k + 1) from by omega, show m + 1 - (k + 1) = m - k from by omega, Nat.zero_add]
theorem zoc_open (S : Nat → Bool) : ∀ k d m, k ≤ m → (∀ x, d ≤ x → x < d + k → S x = false) → zoc S d m = k + zoc S (d + k) (m - k)
  | 0, d, m, _, _ => by rw [Nat.zero_add]; rfl
  | k + 1, d, 0, hk, h => by omega
  | k + 1, d, m + 1, hk, h => by
    have ih := zoc_open S k (d + 1) m (by omega) (fun x a b => h x (by omega) (by omega))
    have hd := h d (by omega) (by omega)
    rw [zoc, hd, ih, show d + 1 + k = d + (k + 1) from by omega, show m + 1 - (k + 1) = m - k from by omega]
    simp only [Bool.false_eq_true, reduceIte]
    omega
theorem zoc_le (S : Nat → Bool) : ∀ m d, zoc S d m ≤ m
  | 0, d => Nat.le_refl 0
  | m + 1, d => by
    have := zoc_le S m (d + 1)
    rw [zoc]
    split <;> omega
theorem zpast_ge (F E : Nat → Nat) (d : Nat) : ∀ n, d ≤ zpast F E d n
  | 0 => Nat.le_refl d
  | n + 1 => by
    have := zpast_ge F E d n
    rw [zpast]
    split <;> omega
theorem zpast_cov (F E : Nat → Nat) (d : Nat) : ∀ n x, d ≤ x → x < zpast F E d n → zshu F E x n = true
  | 0, x, h1, h2 => by rw [zpast] at h2; omega
  | n + 1, x, h1, h2 => by
    rw [zpast] at h2
    rw [zshu]
    split at h2
    · next c =>
      rw [decide_eq_true (show F n ≤ x by omega), decide_eq_true (show x ≤ E n by omega)]
      simp
    · rw [zpast_cov F E d n x h1 h2]; rfl
theorem zpast_eq (F E : Nat → Nat) (d : Nat) : ∀ n, zpast F E d n = d → ∀ r, r < n → F r ≤ d → E r < d
  | 0, _, r, hr, _ => by omega
  | n + 1, h, r, hr, hF => by
    have g := zpast_ge F E d n
    rw [zpast] at h
    split at h
    · omega
    · next c =>
      by_cases e : r = n
      · subst e
        have : ¬ zpast F E d r ≤ E r := fun z => c ⟨hF, z⟩
        omega
      · exact zpast_eq F E d n h r (by omega) hF
theorem zpast_ex (F E : Nat → Nat) (d : Nat) : ∀ n, d < zpast F E d n → ∃ r, r < n ∧ d ≤ E r ∧ zpast F E d n = E r + 1
  | 0, h => by rw [zpast] at h; omega
  | n + 1, h => by
    have g := zpast_ge F E d n
    rw [zpast] at h ⊢
    split at h
    · next c => rw [if_pos c]; exact ⟨n, by omega, by omega, rfl⟩
    · next c =>
      rw [if_neg c]
      obtain ⟨r, h1, h2, h3⟩ := zpast_ex F E d n h
      exact ⟨r, by omega, h2, h3⟩
theorem zpast_le {F E : Nat → Nat} {d n : Nat} (hd : d ≤ 1501) (hE : ∀ r, r < n → E r ≤ 1500) : zpast F E d n ≤ 1501 := by
  by_cases c : d < zpast F E d n
  · obtain ⟨r, h1, h2, h3⟩ := zpast_ex F E d n c
    have := hE r h1
    omega
  · omega
theorem znext_gt (F : Nat → Nat) (d : Nat) (hd : d < 1501) : ∀ n, d < znext F d n
  | 0 => hd
  | n + 1 => by
    have := znext_gt F d hd n
    rw [znext]
    split <;> omega
theorem znext_le (F : Nat → Nat) (d : Nat) : ∀ n r, r < n → d < F r → znext F d n ≤ F r
  | 0, r, hr, _ => by omega
  | n + 1, r, hr, hF => by
    rw [znext]
    by_cases e : r = n
    · subst e; split <;> omega
    · have := znext_le F d n r (by omega) hF
      split <;> omega
theorem znext_ex (F : Nat → Nat) (d : Nat) : ∀ n, znext F d n = 1501 ∨ ∃ r, r < n ∧ d < F r ∧ znext F d n = F r
  | 0 => Or.inl rfl
  | n + 1 => by
    rw [znext]
    split
    · next c => exact Or.inr ⟨n, by omega, c.1, rfl⟩
    · rcases znext_ex F d n with h | ⟨r, h1, h2, h3⟩
      · exact Or.inl h
      · exact Or.inr ⟨r, by omega, h2, h3⟩
theorem znext_top (F : Nat → Nat) (d : Nat) : ∀ n, znext F d n ≤ 1501
  | 0 => Nat.le_refl _
  | n + 1 => by
    have := znext_top F d n
    rw [znext]
    split <;> omega
theorem zshu_no (F E : Nat → Nat) (x : Nat) : ∀ n, (∀ r, r < n → ¬ (F r ≤ x ∧ x ≤ E r)) → zshu F E x n = false
  | 0, _ => rfl
  | n + 1, h => by
    rw [zshu, zshu_no F E x n (fun r hr => h r (by omega))]
    have := h n (by omega)
    by_cases c : F n ≤ x
    · rw [decide_eq_true c, decide_eq_false (fun z => this ⟨c, z⟩)]; rfl
    · rw [decide_eq_false c]; rfl
theorem znext_open {F E : Nat → Nat} {d n : Nat} (hp : zpast F E d n = d) : ∀ x, d ≤ x → x < znext F d n → zshu F E x n = false := fun x h1 h2 =>
  zshu_no F E x n fun r hr ⟨a, b⟩ => by
    by_cases c : F r ≤ d
    · have := zpast_eq F E d n hp r hr c
      omega
    · have := znext_le F d n r hr (by omega)
      omega
theorem zmu_mono (F E : Nat → Nat) {d d' : Nat} (h : d ≤ d') : ∀ n, zmu F E d' n ≤ zmu F E d n
  | 0 => Nat.le_refl _
  | n + 1 => by
    have := zmu_mono F E h n
    rw [zmu, zmu]
    (repeat' split) <;> omega
theorem zmu_lt1 (F E : Nat → Nat) {d d' : Nat} (h : d ≤ d') : ∀ n r, r < n → d ≤ E r → E r < d' → zmu F E d' n < zmu F E d n
  | 0, r, hr, _, _ => by omega
  | n + 1, r, hr, a, b => by
    rw [zmu, zmu]
    by_cases e : r = n
    · subst e
      have := zmu_mono F E h r
      (repeat' split) <;> omega
    · have := zmu_lt1 F E h n r (by omega) a b
      (repeat' split) <;> omega
theorem zmu_lt2 (F E : Nat → Nat) {d d' : Nat} (h : d ≤ d') : ∀ n r, r < n → d < F r → F r ≤ d' → zmu F E d' n < zmu F E d n
  | 0, r, hr, _, _ => by omega
  | n + 1, r, hr, a, b => by
    rw [zmu, zmu]
    by_cases e : r = n
    · subst e
      have := zmu_mono F E h r
      (repeat' split) <;> omega
    · have := zmu_lt2 F E h n r (by omega) a b
      (repeat' split) <;> omega
theorem zmu_le (F E : Nat → Nat) (d : Nat) : ∀ n, zmu F E d n ≤ 2 * n
  | 0 => Nat.le_refl _
  | n + 1 => by
    have := zmu_le F E d n
    rw [zmu]
    split <;> split <;> omega
def zSH (h : zHp) (i s : Nat) (F E : Nat → Nat) : Prop := i < 20 ∧ s ≤ 8 ∧ h.1 21 i = nI s ∧ ∀ r, r < s → h.1 22 (8 * i + r) = nI (F r) ∧ h.1 23 (8 * i + r) = nI (E r) ∧ F r ≤ 1500 ∧ E r ≤ 1500
theorem e_past1 {h : zHp} {i s d : Nat} {F E : Nat → Nat} (H : zSH h i s F E) (hd : d ≤ 1501) : ∀ m r f, r + m = s → m < f → s_X4_shutPast_L12 f (nI i) (nI d) (nI (zpast F E d r)) (nI (8 * i)) (nI (8 * i + r)) h = some (nI (zpast F E d s), h)
  | 0, r, f + 1, hm, hf => by
    obtain rfl : r = s := by omega
    obtain ⟨h1, h2, h3, h4⟩ := H
    simp only [s_X4_shutPast_L12, zriA h1 (by decide), Option.bind_some, h3, nI_add, nI_le (Nat.le_refl (8 * i + r)) (show 8 * i + r < 2 ^ 31 by omega), reduceIte]
  | m + 1, r, f + 1, hm, hf => by
    have ih := e_past1 H hd m (r + 1) f (by omega) (by omega)
    obtain ⟨h1, h2, h3, h4⟩ := H
    obtain ⟨a1, a2, a3, a4⟩ := h4 r (by omega)
    have p1 := zpast_le (F := F) (E := E) (d := d) (n := r) hd (fun x hx => (h4 x (by omega)).2.2.2)
    simp only [s_X4_shutPast_L12, s_X4_shutPast_L58, zriA h1 (by decide), Option.bind_some, h3, nI_add, nI_ge (show 8 * i + r < 8 * i + s by omega) (show 8 * i + s < 2 ^ 31 by omega), reduceIte, zriA (show 8 * i + r < 160 by omega) (by decide), a1, a2, nI_1]
    by_cases c1 : F r ≤ d
    · by_cases c2 : zpast F E d r ≤ E r
      · rw [zpast, if_pos ⟨c1, c2⟩] at ih
        rw [if_neg (nI_nlt c1 (by omega)), if_neg (nI_nlt c2 (by omega))]
        exact ih
      · rw [zpast, if_neg (fun z => c2 z.2)] at ih
        rw [if_neg (nI_nlt c1 (by omega)), if_pos (nI_lt (by omega) (by omega))]
        exact ih
    · rw [zpast, if_neg (fun z => c1 z.1)] at ih
      rw [if_pos (nI_lt (by omega) (by omega))]
      exact ih
theorem e_past {h : zHp} {i s d : Nat} {F E : Nat → Nat} (H : zSH h i s F E) (hd : d ≤ 1501) : s_X4_shutPast (nI i) (nI d) h = some (nI (zpast F E d s), h) := by
  have := e_past1 H hd s 0 zFU (by omega) (zFU_gt (by have := H.2.1; omega))
  unfold s_X4_shutPast
  rw [zbs rfl, show nI i * (8 : Int32) = nI (8 * i) from by rw [show (8 : Int32) = nI 8 from by decide, pk_mul, Nat.mul_comm]]
  exact this
theorem e_next1 {h : zHp} {i s d : Nat} {F E : Nat → Nat} (H : zSH h i s F E) (hd : d ≤ 1501) : ∀ m r f, r + m = s → m < f → s_X4_nextShut_L14 f (nI i) (nI d) (nI (znext F d r)) (nI (8 * i)) (nI (8 * i + r)) h = some (nI (znext F d s), h)
  | 0, r, f + 1, hm, hf => by
    obtain rfl : r = s := by omega
    obtain ⟨h1, h2, h3, h4⟩ := H
    simp only [s_X4_nextShut_L14, zriA h1 (by decide), Option.bind_some, h3, nI_add, nI_le (Nat.le_refl (8 * i + r)) (show 8 * i + r < 2 ^ 31 by omega), reduceIte]
  | m + 1, r, f + 1, hm, hf => by
    have ih := e_next1 H hd m (r + 1) f (by omega) (by omega)
    obtain ⟨h1, h2, h3, h4⟩ := H
    obtain ⟨a1, a2, a3, a4⟩ := h4 r (by omega)
    have p1 := znext_top F d r
    simp only [s_X4_nextShut_L14, s_X4_nextShut_L58, zriA h1 (by decide), Option.bind_some, h3, nI_add, nI_ge (show 8 * i + r < 8 * i + s by omega) (show 8 * i + s < 2 ^ 31 by omega), reduceIte, zriA (show 8 * i + r < 160 by omega) (by decide), a1, a2, nI_1]
    by_cases c1 : d < F r
    · by_cases c2 : F r < znext F d r
      · rw [znext, if_pos ⟨c1, c2⟩] at ih
        rw [if_neg (nI_ge c1 (by omega)), if_neg (nI_ge c2 (by omega))]
        exact ih
      · rw [znext, if_neg (fun z => c2 z.2)] at ih
        rw [if_neg (nI_ge c1 (by omega)), if_pos (nI_le (by omega) (by omega))]
        exact ih
    · rw [znext, if_neg (fun z => c1 z.1)] at ih
      rw [if_pos (nI_le (by omega) (by omega))]
      exact ih
theorem e_next {h : zHp} {i s d : Nat} {F E : Nat → Nat} (H : zSH h i s F E) (hd : d ≤ 1501) : s_X4_nextShut (nI i) (nI d) h = some (nI (znext F d s), h) := by
  have := e_next1 H hd s 0 zFU (by omega) (zFU_gt (by have := H.2.1; omega))
  unfold s_X4_nextShut
  rw [zbs rfl, show nI i * (8 : Int32) = nI (8 * i) from by rw [show (8 : Int32) = nI 8 from by decide, pk_mul, Nat.mul_comm]]
  exact this
theorem e_min {a b : Nat} {h : zHp} (ha : a < 2 ^ 31) (hb : b < 2 ^ 31) : s_J9_min_7cf53 (nI a) (nI b) h = some (nI (min a b), h) := by
  unfold s_J9_min_7cf53 s_J9_min_7cf53_L10
  by_cases c : b < a
  · rw [if_pos (nI_lt c ha), show min a b = b from by omega]
  · rw [if_neg (nI_nlt (by omega) hb), show min a b = a from by omega]
theorem e_open1 {h : zHp} {i s to : Nat} {F E : Nat → Nat} (H : zSH h i s F E) (hto : to ≤ 1500) : ∀ m e d acc f, e + m = 17 → m < f → (to < d ∨ zmu F E d s + e ≤ 16) → d ≤ 1501 → s_X4_openDays_L9 f (nI i) (nI to) (nI acc) (nI d) (nI e) h = some (nI (acc + zoc (fun x => zshu F E x s) d (to + 1 - d)), h)
  | 0, e, d, acc, f + 1, hm, hf, hd, hd2 => by
    obtain rfl : e = 17 := by omega
    have hd3 : to < d := by omega
    simp only [s_X4_openDays_L9, s_X4_openDays_L73, show (16 : Int32) < nI 17 from by decide, reduceIte, show to + 1 - d = 0 from by omega, zoc, Nat.add_zero]
  | m + 1, e, d, acc, f + 1, hm, hf, hd, hd2 => by
    have c0 : ¬ (16 : Int32) < nI e := nI_nlt (b := e) (a := 16) (by omega) (by decide)
    by_cases c : to < d
    · simp only [s_X4_openDays_L9, s_X4_openDays_L73, c0, reduceIte, nI_lt c (show d < 2 ^ 31 by omega), show to + 1 - d = 0 from by omega, zoc, Nat.add_zero]
    · have c1 : ¬ nI to < nI d := nI_nlt (by omega) (by omega)
      have hmu : zmu F E d s + e ≤ 16 := by omega
      have hp := e_past H (d := d) hd2
      have hn := e_next H (d := d) hd2
      have n1 := znext_top F d s
      have n2 := znext_gt F d (by omega) s
      have p1 := zpast_le (F := F) (E := E) (d := d) (n := s) hd2 (fun x hx => (H.2.2.2 x hx).2.2.2)
      have p2 := zpast_ge F E d s
      have c16 : (16 : Int32) < nI e ↔ False := ⟨c0, False.elim⟩
      simp only [s_X4_openDays_L9, s_X4_openDays_L63, c0, c1, reduceIte, hp, hn, Option.bind_some, nI_1, e_min (show to + 1 < 2 ^ 31 by omega) (show znext F d s < 2 ^ 31 by omega)]
      by_cases c2 : zpast F E d s = d
      · rw [if_pos (by rw [c2])]
        have ih := e_open1 H hto m (e + 1) (min (to + 1) (znext F d s)) (acc + (min (to + 1) (znext F d s) - d)) f (by omega) (by omega) (by
          by_cases c3 : to + 1 ≤ znext F d s
          · left; omega
          · right
            rcases znext_ex F d s with z | ⟨r, z1, z2, z3⟩
            · omega
            · have := zmu_lt2 F E (d := d) (d' := min (to + 1) (znext F d s)) (by omega) s r z1 z2 (by omega)
              omega) (by omega)
        rw [pk_sub (by omega), nI_add, ih, zoc_open _ (min (to + 1) (znext F d s) - d) d (to + 1 - d) (by omega) (fun x x1 x2 => znext_open c2 x x1 (by omega)), show d + (min (to + 1) (znext F d s) - d) = min (to + 1) (znext F d s) from by omega, show to + 1 - d - (min (to + 1) (znext F d s) - d) = to + 1 - min (to + 1) (znext F d s) from by omega, Nat.add_assoc]
      · rw [if_neg (fun z => c2 ((nI_eq (by omega) (by omega)).mp z))]
        have ih := e_open1 H hto m (e + 1) (zpast F E d s) acc f (by omega) (by omega) (by
          obtain ⟨r, z1, z2, z3⟩ := zpast_ex F E d s (by omega)
          have := zmu_lt1 F E p2 s r z1 z2 (by omega)
          omega) (by omega)
        rw [ih, zoc_shut _ (zpast F E d s - d) d (to + 1 - d) (fun x x1 x2 => zpast_cov F E d s x x1 (by omega)), show d + (zpast F E d s - d) = zpast F E d s from by omega, show to + 1 - d - (zpast F E d s - d) = to + 1 - zpast F E d s from by omega]
theorem e_open {h : zHp} {i s fr to : Nat} {F E : Nat → Nat} (H : zSH h i s F E) (hfr : fr ≤ 1500) (hto : to ≤ 1500) : s_X4_openDays (nI i) (nI fr) (nI to) h = some (nI (zoc (fun x => zshu F E x s) fr (to + 1 - fr)), h) := by
  have h1 := zmu_le F E fr s
  have h2 := H.2.1
  have := e_open1 H hto 17 0 fr 0 zFU (by omega) (zFU_gt (by decide)) (by omega) (by omega)
  rw [Nat.zero_add] at this
  exact this
/-- 0 or 1 -/
def zb2 (b : Bool) : Int32 := if b then 1 else 0
theorem m_shut1 {h : zHp} {i s d : Nat} {F E : Nat → Nat} (H : zSH h i s F E) (e1 : h.1 21 = h.1 106) (e2 : h.1 22 = h.1 107) (e3 : h.1 23 = h.1 108) (hd : d ≤ 1501) (k45 : Int32 → Int32 → Int32 → Int32 → zHp → Option (Int32 × zHp)) (a1 a3 : Int32) : ∀ m r f, r + m = s → m < f → s_X10_weightOf_L62 k45 f a1 (nI i) a3 (nI d) (zb2 (zshu F E d r)) (nI r) h = k45 a1 (nI i) (a3 + (if zshu F E d s then 0 else 1)) (nI (d + 1)) h
  | 0, r, f + 1, hm, hf => by
    obtain rfl : r = s := by omega
    obtain ⟨h1, h2, h3, h4⟩ := H
    simp only [s_X10_weightOf_L62, s_X10_weightOf_L134, zriA h1 (by decide), Option.bind_some, ← e1, h3, nI_le (Nat.le_refl r) (show r < 2 ^ 31 by omega), reduceIte, nI_1]
    unfold zb2
    cases zshu F E d r
    · simp only [Bool.false_eq_true, reduceIte]
    · simp only [reduceIte, z10]
  | m + 1, r, f + 1, hm, hf => by
    have ih := m_shut1 H e1 e2 e3 hd k45 a1 a3 m (r + 1) f (by omega) (by omega)
    obtain ⟨h1, h2, h3, h4⟩ := H
    obtain ⟨b1, b2, b3, b4⟩ := h4 r (by omega)
    simp only [s_X10_weightOf_L62, s_X10_weightOf_L110, s_X10_weightOf_L115, zriA h1 (by decide), Option.bind_some, ← e1, ← e2, ← e3, h3, nI_ge (show r < s by omega) (show s < 2 ^ 31 by omega), reduceIte, zix8, zriA (show 8 * i + r < 160 by omega) (by decide), b1, b2, nI_1]
    rw [zshu] at ih
    unfold zb2 at ih ⊢
    cases c : zshu F E d r
    · rw [c] at ih
      simp only [Bool.false_eq_true, reduceIte, Bool.false_or] at ih ⊢
      by_cases c1 : F r ≤ d
      · by_cases c2 : d ≤ E r
        · rw [e_in1 (nI_nlt c1 (by omega)) (nI_nlt c2 (by omega)), zbs rfl]
          rw [decide_eq_true c1, decide_eq_true c2] at ih
          simp only [Bool.and_self, reduceIte] at ih
          simp only [z10, reduceIte]
          exact ih
        · rw [e_in0 (Or.inr (nI_lt (show E r < d by omega) (by omega))), zbs rfl]
          rw [decide_eq_false c2, Bool.and_false] at ih
          simp only [Bool.false_eq_true, reduceIte] at ih ⊢
          exact ih
      · rw [e_in0 (Or.inl (nI_lt (show d < F r by omega) (by omega))), zbs rfl]
        rw [decide_eq_false c1, Bool.false_and] at ih
        simp only [Bool.false_eq_true, reduceIte] at ih ⊢
        exact ih
    · rw [c] at ih
      simp only [Bool.true_or, reduceIte] at ih
      simp only [z10, reduceIte]
      exact ih

/-! ===== rounds: ways, place by place ===== -/
def zokb (N F ρ : Nat → Nat) (i x : Nat) : Bool := decide (x < 40) && (decide ((x % 8) &&& F i = x % 8) && (decide (zpc (x % 8) = N i) && (decide (y3 (x % 8) 0 ≤ ρ (3 * (x / 8) + 0)) && (decide (y3 (x % 8) 1 ≤ ρ (3 * (x / 8) + 1)) && decide (y3 (x % 8) 2 ≤ ρ (3 * (x / 8) + 2))))))
def zsub (ρ : Nat → Nat) (x : Nat) : Nat → Nat := fun j => if j / 3 = x / 8 then ρ j - y3 (x % 8) (j % 3) else ρ j
def zmn (v : Nat → Nat) (ok : Nat → Bool) (z : Nat) : Nat → Nat
  | 0 => z
  | x + 1 => if ok x then min (zmn v ok z x) (v x) else zmn v ok z x
def zLw (P : Nat → Nat → Nat) (N F : Nat → Nat) : Nat → Nat → (Nat → Nat) → Nat
  | 0, _, _ => 0
  | m + 1, i, ρ => zmn (fun x => P i (x / 8) + zLw P N F m (i + 1) (zsub ρ x)) (zokb N F ρ i) (P i 5 + zLw P N F m (i + 1) ρ) 40
def zfw (v : Nat → Nat) (ok : Nat → Bool) (t : Nat) : Nat → Nat
  | 0 => 0
  | n + 1 => if zfw v ok t n < n then zfw v ok t n else if ok n && decide (v n = t) then n else n + 1
def zvw (P : Nat → Nat → Nat) (N F : Nat → Nat) (m i : Nat) (ρ : Nat → Nat) (x : Nat) : Nat := P i (x / 8) + zLw P N F m (i + 1) (zsub ρ x)
def zfx (P : Nat → Nat → Nat) (N F : Nat → Nat) (m i : Nat) (ρ : Nat → Nat) : Nat := zfw (zvw P N F m i ρ) (zokb N F ρ i) (zLw P N F (m + 1) i ρ) 40
def zgw (P : Nat → Nat → Nat) (N F : Nat → Nat) : Nat → Nat → (Nat → Nat) → Nat → Nat
  | 0, _, _, _ => 40
  | m + 1, i, ρ, j => if j = i then zfx P N F m i ρ else zgw P N F m (i + 1) (zsub ρ (zfx P N F m i ρ)) j
theorem zmn_z {v : Nat → Nat} {ok : Nat → Bool} {z : Nat} : ∀ n, zmn v ok z n ≤ z
  | 0 => Nat.le_refl _
  | n + 1 => by
    have := zmn_z (v := v) (ok := ok) (z := z) n
    rw [zmn]
    split <;> omega
theorem zmn_v {v : Nat → Nat} {ok : Nat → Bool} {z x : Nat} (hx : ok x = true) : ∀ n, x < n → zmn v ok z n ≤ v x
  | 0, h => by omega
  | n + 1, h => by
    rw [zmn]
    by_cases e : x = n
    · subst e
      rw [if_pos hx]; omega
    · have := zmn_v (v := v) (ok := ok) (z := z) hx n (by omega)
      split <;> omega
theorem zmn_ex {v : Nat → Nat} {ok : Nat → Bool} {z : Nat} : ∀ n, zmn v ok z n = z ∨ ∃ x, x < n ∧ ok x = true ∧ zmn v ok z n = v x
  | 0 => Or.inl rfl
  | n + 1 => by
    rw [zmn]
    split
    · next c =>
      by_cases d : v n < zmn v ok z n
      · exact Or.inr ⟨n, by omega, c, by omega⟩
      · rw [Nat.min_eq_left (by omega)]
        rcases zmn_ex (v := v) (ok := ok) (z := z) n with h | ⟨x, x1, x2, x3⟩
        · exact Or.inl h
        · exact Or.inr ⟨x, by omega, x2, x3⟩
    · rcases zmn_ex (v := v) (ok := ok) (z := z) n with h | ⟨x, x1, x2, x3⟩
      · exact Or.inl h
      · exact Or.inr ⟨x, by omega, x2, x3⟩
theorem zfw_le {v : Nat → Nat} {ok : Nat → Bool} {t : Nat} : ∀ n, zfw v ok t n ≤ n
  | 0 => Nat.le_refl _
  | n + 1 => by
    rw [zfw]
    split
    · omega
    · split <;> omega
theorem zfw_no {v : Nat → Nat} {ok : Nat → Bool} {t : Nat} : ∀ n x, x < zfw v ok t n → ¬ (ok x = true ∧ v x = t)
  | 0, x, h => by simp [zfw] at h
  | n + 1, x, h => by
    have ih := zfw_no (v := v) (ok := ok) (t := t) n x
    have le := zfw_le (v := v) (ok := ok) (t := t) n
    rw [zfw] at h
    by_cases c : zfw v ok t n < n
    · rw [if_pos c] at h; exact ih h
    · rw [if_neg c] at h
      by_cases d : (ok n && decide (v n = t)) = true
      · rw [if_pos d] at h; exact ih (by omega)
      · rw [if_neg d] at h
        by_cases e : x = n
        · subst e
          rw [Bool.and_eq_true, decide_eq_true_iff] at d
          exact d
        · exact ih (by omega)
theorem zfw_is {v : Nat → Nat} {ok : Nat → Bool} {t : Nat} : ∀ n, zfw v ok t n < n → ok (zfw v ok t n) = true ∧ v (zfw v ok t n) = t
  | 0, h => by omega
  | n + 1, h => by
    rw [zfw] at h ⊢
    by_cases c : zfw v ok t n < n
    · rw [if_pos c]; exact zfw_is n c
    · rw [if_neg c] at h ⊢
      by_cases d : (ok n && decide (v n = t)) = true
      · rw [if_pos d]
        rw [Bool.and_eq_true, decide_eq_true_iff] at d
        exact d
      · rw [if_neg d] at h; omega
/-- the first that is so -/
theorem zfw_eq {v : Nat → Nat} {ok : Nat → Bool} {t n x : Nat} (hx : x ≤ n) (h1 : ∀ y, y < x → ¬ (ok y = true ∧ v y = t)) (h2 : x < n → ok x = true ∧ v x = t) : zfw v ok t n = x := by
  have le := zfw_le (v := v) (ok := ok) (t := t) n
  by_cases c : zfw v ok t n < x
  · exact absurd (zfw_is n (by omega)) (h1 _ c)
  · by_cases d : x < zfw v ok t n
    · exact absurd (h2 (by omega)) (zfw_no n x d)
    · omega
theorem y30 (k : Nat) : y3 0 k = 0 := by unfold y3; rw [Nat.zero_testBit]; rfl
theorem zsub_40 (ρ : Nat → Nat) : zsub ρ 40 = ρ := by
  funext j
  unfold zsub
  rw [show (40 : Nat) % 8 = 0 from rfl, y30, Nat.sub_zero]
  split <;> rfl
theorem zfx_spec (P : Nat → Nat → Nat) (N F : Nat → Nat) (m i : Nat) (ρ : Nat → Nat) : zvw P N F m i ρ (zfx P N F m i ρ) = zLw P N F (m + 1) i ρ := by
  have le : zfx P N F m i ρ ≤ 40 := zfw_le 40
  by_cases c : zfx P N F m i ρ < 40
  · exact (zfw_is 40 c).2
  · have e : zfx P N F m i ρ = 40 := by omega
    rw [e]
    unfold zvw
    rw [zsub_40, show (40 : Nat) / 8 = 5 from rfl, zLw]
    rcases zmn_ex (v := fun x => P i (x / 8) + zLw P N F m (i + 1) (zsub ρ x)) (ok := zokb N F ρ i) (z := P i 5 + zLw P N F m (i + 1) ρ) 40 with h | ⟨x, x1, x2, x3⟩
    · exact h.symm
    · have := zfw_no (v := zvw P N F m i ρ) (ok := zokb N F ρ i) (t := zLw P N F (m + 1) i ρ) 40 x (by
        show x < zfx P N F m i ρ
        omega)
      refine absurd ⟨x2, ?_⟩ this
      unfold zvw
      rw [zLw]
      exact x3.symm
/-! all ways -/
def zVA (N F : Nat → Nat) : Nat → Nat → (Nat → Nat) → (Nat → Nat) → Prop
  | 0, _, _, _ => True
  | m + 1, i, ρ, w => (w i = 40 ∨ zokb N F ρ i (w i) = true) ∧ zVA N F m (i + 1) (zsub ρ (w i)) w
def zCA (P : Nat → Nat → Nat) : Nat → Nat → (Nat → Nat) → Nat
  | 0, _, _ => 0
  | m + 1, i, w => P i (w i / 8) + zCA P m (i + 1) w
theorem zVA_congr {N F : Nat → Nat} : ∀ m i ρ (w w' : Nat → Nat), (∀ j, i ≤ j → w j = w' j) → zVA N F m i ρ w → zVA N F m i ρ w'
  | 0, _, _, _, _, _, _ => trivial
  | m + 1, i, ρ, w, w', h, hv => by
    rw [zVA] at hv ⊢
    rw [← h i (Nat.le_refl i)]
    exact ⟨hv.1, zVA_congr m (i + 1) _ w w' (fun j hj => h j (by omega)) hv.2⟩
theorem zCA_congr {P : Nat → Nat → Nat} : ∀ m i (w w' : Nat → Nat), (∀ j, i ≤ j → w j = w' j) → zCA P m i w = zCA P m i w'
  | 0, _, _, _, _ => rfl
  | m + 1, i, w, w', h => by
    rw [zCA, zCA, h i (Nat.le_refl i), zCA_congr m (i + 1) w w' (fun j hj => h j (by omega))]
theorem zLw_min {P : Nat → Nat → Nat} {N F : Nat → Nat} : ∀ m i ρ, zMin (zLw P N F m i ρ) (fun c => ∃ w, zVA N F m i ρ w ∧ c = zCA P m i w)
  | 0, i, ρ => ⟨⟨fun _ => 40, trivial, rfl⟩, fun c _ => Nat.zero_le _⟩
  | m + 1, i, ρ => by
    have ext : ∀ x, (x = 40 ∨ zokb N F ρ i x = true) → ∃ w, zVA N F (m + 1) i ρ w ∧ P i (x / 8) + zLw P N F m (i + 1) (zsub ρ x) = zCA P (m + 1) i w := fun x hx => by
      obtain ⟨⟨w, w1, w2⟩, -⟩ := zLw_min (P := P) (N := N) (F := F) m (i + 1) (zsub ρ x)
      refine ⟨fun j => if j = i then x else w j, ?_, ?_⟩
      · rw [zVA]
        simp only [reduceIte]
        exact ⟨hx, zVA_congr m (i + 1) _ w _ (fun j hj => by simp only [show ¬ j = i by omega, reduceIte]) w1⟩
      · rw [zCA]
        simp only [reduceIte]
        rw [w2, zCA_congr m (i + 1) w (fun j => if j = i then x else w j) (fun j hj => by simp only [show ¬ j = i by omega, reduceIte])]
    refine ⟨?_, fun c ⟨w, w1, w2⟩ => ?_⟩
    · rw [zLw]
      rcases zmn_ex (v := fun x => P i (x / 8) + zLw P N F m (i + 1) (zsub ρ x)) (ok := zokb N F ρ i) (z := P i 5 + zLw P N F m (i + 1) ρ) 40 with h | ⟨x, x1, x2, x3⟩
      · obtain ⟨w, w1, w2⟩ := ext 40 (Or.inl rfl)
        rw [zsub_40, show (40 : Nat) / 8 = 5 from rfl] at w2
        exact ⟨w, w1, by rw [h]; exact w2⟩
      · obtain ⟨w, w1, w2⟩ := ext x (Or.inr x2)
        exact ⟨w, w1, by rw [x3]; exact w2⟩
    · rw [zVA] at w1
      rw [zCA] at w2
      have ih := (zLw_min (P := P) (N := N) (F := F) m (i + 1) (zsub ρ (w i))).2 _ ⟨w, w1.2, rfl⟩
      rw [zLw, w2]
      rcases w1.1 with h | h
      · have := zmn_z (v := fun x => P i (x / 8) + zLw P N F m (i + 1) (zsub ρ x)) (ok := zokb N F ρ i) (z := P i 5 + zLw P N F m (i + 1) ρ) 40
        rw [h, zsub_40] at ih
        rw [h, show (40 : Nat) / 8 = 5 from rfl]
        omega
      · have lt : w i < 40 := by
          unfold zokb at h
          rw [Bool.and_eq_true] at h
          exact of_decide_eq_true h.1
        have := zmn_v (v := fun x => P i (x / 8) + zLw P N F m (i + 1) (zsub ρ x)) (ok := zokb N F ρ i) (z := P i 5 + zLw P N F m (i + 1) ρ) h 40 lt
        try dsimp only at this
        omega
theorem zokb_iff {N F ρ : Nat → Nat} {i x : Nat} : zokb N F ρ i x = true ↔ x < 40 ∧ zopt (N i) (F i) (x % 8) ∧ ∀ k, k < 3 → y3 (x % 8) k ≤ ρ (3 * (x / 8) + k) := by
  unfold zokb zopt
  simp only [Bool.and_eq_true, decide_eq_true_iff]
  constructor
  · rintro ⟨a, b, c, d, e, f⟩
    refine ⟨a, ⟨by omega, b, c⟩, fun k hk => ?_⟩
    match k, hk with
    | 0, _ => exact d
    | 1, _ => exact e
    | 2, _ => exact f
  · rintro ⟨a, ⟨-, b, c⟩, d⟩
    exact ⟨a, b, c, d 0 (by decide), d 1 (by decide), d 2 (by decide)⟩
theorem zsS_first {g : Nat → Nat} {i : Nat} : ∀ s, i < s → zsS g (fun j => decide (i ≤ j)) s = g i + zsS g (fun j => decide (i + 1 ≤ j)) s
  | 0, h => by omega
  | s + 1, h => by
    rw [zsS, zsS]
    by_cases e : i = s
    · subst e
      rw [zsS_none i (fun j hj => decide_eq_false (by omega)), zsS_none i (fun j hj => decide_eq_false (by omega))]
      simp only [Nat.le_refl, decide_true, reduceIte, show ¬ i + 1 ≤ i by omega, decide_false, Bool.false_eq_true]
      omega
    · rw [zsS_first s (by omega)]
      simp only [show i ≤ s by omega, show i + 1 ≤ s by omega, decide_true, reduceIte]
      omega
theorem zCA_sum {P : Nat → Nat → Nat} {s : Nat} {w : Nat → Nat} : ∀ m i, i + m = s → zCA P m i w = zsS (fun j => P j (w j / 8)) (fun j => decide (i ≤ j)) s
  | 0, i, h => by rw [zsS_none s (fun j hj => decide_eq_false (by omega))]; rfl
  | m + 1, i, h => by rw [zCA, zCA_sum (s := s) m (i + 1) (by omega), zsS_first (i := i) s (by omega)]
theorem zsub_at (ρ : Nat → Nat) (x d k : Nat) (hk : k < 3) : zsub ρ x (3 * d + k) = if d = x / 8 then ρ (3 * d + k) - y3 (x % 8) k else ρ (3 * d + k) := by
  unfold zsub
  rw [show (3 * d + k) / 3 = d by omega, show (3 * d + k) % 3 = k by omega]
theorem zVA_iff {N F : Nat → Nat} {s : Nat} {w : Nat → Nat} : ∀ m i ρ, i + m = s → (zVA N F m i ρ w ↔ (∀ j, i ≤ j → j < s → w j = 40 ∨ (w j < 40 ∧ zopt (N j) (F j) (w j % 8))) ∧ ∀ d, d < 5 → ∀ k, k < 3 → zsS (fun j => if w j / 8 = d then y3 (w j % 8) k else 0) (fun j => decide (i ≤ j)) s ≤ ρ (3 * d + k))
  | 0, i, ρ, h => by
    refine ⟨fun _ => ⟨fun j h1 h2 => by omega, fun d _ k _ => ?_⟩, fun _ => trivial⟩
    rw [zsS_none s (fun j hj => decide_eq_false (by omega))]
    exact Nat.zero_le _
  | m + 1, i, ρ, h => by
    rw [zVA, zVA_iff (s := s) m (i + 1) (zsub ρ (w i)) (by omega)]
    constructor
    · rintro ⟨a, b, c⟩
      refine ⟨fun j h1 h2 => ?_, fun d hd k hk => ?_⟩
      · by_cases e : j = i
        · subst e
          rcases a with a | a
          · exact Or.inl a
          · rw [zokb_iff] at a
            exact Or.inr ⟨a.1, a.2.1⟩
        · exact b j (by omega) h2
      · have := c d hd k hk
        rw [zsub_at ρ _ d k hk] at this
        rw [zsS_first s (by omega)]
        by_cases e : w i / 8 = d
        · rw [if_pos e.symm] at this
          rw [if_pos e]
          rcases a with a | a
          · rw [a] at e; omega
          · rw [zokb_iff] at a
            have := a.2.2 k hk
            rw [e] at this
            omega
        · rw [if_neg (fun z => e z.symm)] at this
          rw [if_neg e]
          omega
    · rintro ⟨a, b⟩
      refine ⟨?_, fun j h1 h2 => a j (by omega) h2, fun d hd k hk => ?_⟩
      · rcases a i (Nat.le_refl i) (by omega) with a | a
        · exact Or.inl a
        · refine Or.inr (zokb_iff.mpr ⟨a.1, a.2, fun k hk => ?_⟩)
          have := b (w i / 8) (by omega) k hk
          rw [zsS_first s (by omega), if_pos rfl] at this
          omega
      · have := b d hd k hk
        rw [zsS_first s (by omega)] at this
        rw [zsub_at ρ _ d k hk]
        by_cases e : w i / 8 = d
        · rw [if_pos e] at this
          rw [if_pos e.symm]
          omega
        · rw [if_neg e] at this
          rw [if_neg (fun z => e z.symm)]
          omega
theorem zsS_if {g : Nat → Nat} {c : Nat → Bool} {S : Nat → Bool} : ∀ m, zsS (fun j => if c j then g j else 0) S m = zsS g (fun j => S j && c j) m
  | 0 => rfl
  | m + 1 => by
    rw [zsS, zsS, zsS_if m]
    cases S m <;> cases c m <;> simp
/-- the least over days is the least over ways -/
theorem zAch_L {P : Nat → Nat → Nat} {N F : Nat → Nat} {s : Nat} {ρ : Nat → Nat} (hh : ∀ i, i < s → (N i = 1 ∨ N i = 2) ∧ F i < 8) {i m : Nat} (him : i + m = s) {S : Nat → Bool} (hS : ∀ j, j < s → S j = decide (i ≤ j)) {R : Nat} (hR : zMin R (zAch P N F s ρ 0 S)) : R = zLw P N F m i ρ := by
  refine zMin_eq (Q := fun c => ∃ w, zVA N F m i ρ w ∧ c = zCA P m i w) ⟨?_, fun c ⟨w, w1, w2⟩ => ?_⟩ (zLw_min m i ρ)
  · obtain ⟨⟨f, f1, f2, f3⟩, -⟩ := hR
    have ch : ∀ e, ∃ σ : Nat → Nat, e < 5 → (∀ j, j < s → (S j && decide (f j = e)) = true → zopt (N j) (F j) (σ j)) ∧ ∀ k, k < 3 → zsS (fun j => y3 (σ j) k) (fun j => S j && decide (f j = e)) s ≤ ρ (3 * e + k) := fun e => by
      by_cases he : e < 5
      · obtain ⟨σ, a, b⟩ := zhall1 s (fun j hj _ => hh j hj) _ (f2 e (Nat.zero_le e) he)
        exact ⟨σ, fun _ => ⟨a, b⟩⟩
      · exact ⟨fun _ => 0, fun z => absurd z he⟩
    obtain ⟨σ, hσ⟩ := Classical.axiomOfChoice ch
    have opt : ∀ j, j < s → S j = true → f j < 5 → zopt (N j) (F j) (σ (f j) j) := fun j hj hs hf => (hσ (f j) hf).1 j hj (by rw [hs]; simp)
    have wd : ∀ j, j < s → S j = true → (if f j = 5 then 40 else 8 * f j + σ (f j) j) / 8 = f j := fun j hj hs => by
      by_cases e : f j = 5
      · rw [if_pos e, e]
      · rw [if_neg e]
        have := (opt j hj hs (by have := f1 j hj hs; omega)).1
        omega
    have wm : ∀ j, j < s → S j = true → f j < 5 → (if f j = 5 then 40 else 8 * f j + σ (f j) j) % 8 = σ (f j) j := fun j hj hs hf => by
      rw [if_neg (by omega)]
      have := (opt j hj hs hf).1
      omega
    have hb : ∀ j, i ≤ j → j < s → S j = true := fun j h1 h2 => by rw [hS j h2]; exact decide_eq_true h1
    refine ⟨fun j => if f j = 5 then 40 else 8 * f j + σ (f j) j, (zVA_iff m i ρ him).mpr ⟨fun j h1 h2 => ?_, fun d hd k hk => ?_⟩, ?_⟩
    · have hs := hb j h1 h2
      by_cases e : f j = 5
      · exact Or.inl (if_pos e)
      · have hf : f j < 5 := by have := f1 j h2 hs; omega
        refine Or.inr ⟨?_, ?_⟩
        · have := (opt j h2 hs hf).1
          try dsimp only
          rw [if_neg e]; omega
        · try dsimp only
          rw [wm j h2 hs hf]; exact opt j h2 hs hf
    · have := (hσ d hd).2 k hk
      refine Nat.le_trans (Nat.le_of_eq ?_) this
      rw [← zsS_if]
      refine zsS_congr s (fun j hj => (hS j hj).symm) (fun j hj h => ?_)
      have hs := hb j (of_decide_eq_true h) hj
      try dsimp only
      rw [wd j hj hs]
      by_cases e : f j = d
      · rw [if_pos e, decide_eq_true e, if_pos rfl, wm j hj hs (by omega), e]
      · rw [if_neg e, decide_eq_false e]; rfl
    · rw [f3, zCA_sum m i him]
      refine zsS_congr s hS (fun j hj hs => ?_)
      try dsimp only
      rw [wd j hj hs]
  · obtain ⟨a, b⟩ := (zVA_iff m i ρ him).mp w1
    refine hR.2 c ⟨fun j => w j / 8, fun j hj hs => ?_, fun e _ he => ?_, ?_⟩
    · rw [hS j hj, decide_eq_true_iff] at hs
      dsimp only
      rcases a j hs hj with h | h
      · omega
      · omega
    · refine zhall2 (fun j hj _ => hh j hj) ⟨fun j => w j % 8, fun j hj hs => ?_, fun k hk => ?_⟩
      · rw [Bool.and_eq_true, hS j hj, decide_eq_true_iff, decide_eq_true_iff] at hs
        rcases a j hs.1 hj with h | h
        · have h5 : w j / 8 = e := hs.2
          rw [h] at h5; omega
        · exact h.2
      · rw [← zsS_if]
        refine Nat.le_trans (Nat.le_of_eq ?_) (b e he k hk)
        refine zsS_congr s hS (fun j hj _ => ?_)
        by_cases z : w j / 8 = e
        · rw [if_pos z, decide_eq_true z, if_pos rfl]
        · rw [if_neg z, decide_eq_false z]; rfl
    · rw [w2, zCA_sum m i him]
      exact (zsS_congr s hS (fun _ _ _ => rfl)).symm
/-! bounds -/
def zlo (P : Nat → Nat → Nat) : Nat → Nat → Nat
  | 0, _ => 0
  | m + 1, i => P i 0 + zlo P m (i + 1)
theorem zlo_le {P : Nat → Nat → Nat} {N F : Nat → Nat} {s : Nat} (hP : ∀ i, i < s → ∀ d, d ≤ 5 → P i 0 ≤ P i d) : ∀ m i ρ, i + m = s → zlo P m i ≤ zLw P N F m i ρ
  | 0, _, _, _ => Nat.le_refl _
  | m + 1, i, ρ, h => by
    rw [zlo, zLw]
    rcases zmn_ex (v := fun x => P i (x / 8) + zLw P N F m (i + 1) (zsub ρ x)) (ok := zokb N F ρ i) (z := P i 5 + zLw P N F m (i + 1) ρ) 40 with e | ⟨x, x1, x2, x3⟩
    · have a := hP i (by omega) 5 (Nat.le_refl 5)
      have b := zlo_le (N := N) (F := F) hP m (i + 1) ρ (by omega)
      omega
    · have a := hP i (by omega) (x / 8) (by omega)
      have b := zlo_le (N := N) (F := F) hP m (i + 1) (zsub ρ x) (by omega)
      try dsimp only at x3
      omega
theorem zLw_bd {P : Nat → Nat → Nat} {N F : Nat → Nat} {s B : Nat} (hP : ∀ i, i < s → ∀ d, d ≤ 5 → P i d ≤ B) : ∀ m i ρ, i + m = s → zLw P N F m i ρ ≤ B * m
  | 0, _, _, _ => Nat.zero_le _
  | m + 1, i, ρ, h => by
    have a := hP i (by omega) 5 (Nat.le_refl 5)
    have b := zLw_bd (N := N) (F := F) hP m (i + 1) ρ (by omega)
    have c := zmn_z (v := fun x => P i (x / 8) + zLw P N F m (i + 1) (zsub ρ x)) (ok := zokb N F ρ i) (z := P i 5 + zLw P N F m (i + 1) ρ) 40
    rw [zLw, Nat.mul_succ]
    omega

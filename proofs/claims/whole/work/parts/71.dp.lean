/-! ===== rounds: sums over places, cuts and hands ===== -/
def zsS (g : Nat → Nat) (S : Nat → Bool) : Nat → Nat
  | 0 => 0
  | m + 1 => zsS g S m + if S m then g m else 0
theorem zsS_congr {g g' : Nat → Nat} {S S' : Nat → Bool} : ∀ m, (∀ i, i < m → S i = S' i) → (∀ i, i < m → S i = true → g i = g' i) → zsS g S m = zsS g' S' m
  | 0, _, _ => rfl
  | m + 1, h1, h2 => by
    rw [zsS, zsS, zsS_congr m (fun i hi => h1 i (by omega)) (fun i hi => h2 i (by omega)), h1 m (by omega)]
    cases e : S' m
    · rfl
    · rw [h2 m (by omega) (by rw [h1 m (by omega)]; exact e)]
theorem zsS_none {g : Nat → Nat} {S : Nat → Bool} : ∀ m, (∀ i, i < m → S i = false) → zsS g S m = 0
  | 0, _ => rfl
  | m + 1, h => by rw [zsS, zsS_none m (fun i hi => h i (by omega)), h m (by omega)]; rfl
/-- a sum over two parts -/
theorem zsS_part {g : Nat → Nat} {S T R : Nat → Bool} : ∀ m, (∀ i, i < m → S i = (T i || R i)) → (∀ i, i < m → T i = true → R i = false) → zsS g S m = zsS g T m + zsS g R m
  | 0, _, _ => rfl
  | m + 1, h1, h2 => by
    rw [zsS, zsS, zsS, zsS_part m (fun i hi => h1 i (by omega)) (fun i hi => h2 i (by omega)), h1 m (by omega)]
    cases e : T m
    · simp only [Bool.false_or, Bool.false_eq_true, reduceIte]; omega
    · rw [h2 m (by omega) e]; simp only [Bool.or_false, Bool.false_eq_true, reduceIte]; omega
theorem zsS_le {g : Nat → Nat} {S : Nat → Bool} {c : Nat} : ∀ m, (∀ i, i < m → S i = true → g i ≤ c) → zsS g S m ≤ c * m
  | 0, _ => Nat.zero_le _
  | m + 1, h => by
    have := zsS_le m (fun i hi => h i (by omega))
    rw [zsS, Nat.mul_succ]
    cases e : S m
    · simp only [Bool.false_eq_true, reduceIte]; omega
    · have := h m (by omega) e
      simp only [reduceIte]; omega
/-- what a set of kitchens needs of a set of hands -/
def zbd (N F : Nat → Nat) (S : Nat → Bool) (m H : Nat) : Nat := zsS (fun i => N i - zpd (F i) H) S m
def zFB (N F : Nat → Nat) (m : Nat) (S : Nat → Bool) (r : Nat → Nat) : Prop := ∀ H, H < 8 → zbd N F S m H ≤ zrM r H
def zFA (N F : Nat → Nat) (m : Nat) (S : Nat → Bool) (r : Nat → Nat) : Prop := ∃ σ : Nat → Nat, (∀ i, i < m → S i = true → zopt (N i) (F i) (σ i)) ∧ ∀ k, k < 3 → zsS (fun i => y3 (σ i) k) S m ≤ r k
theorem zsup1 : ∀ N, N < 3 → ∀ f, f < 8 → (N - zpd f 1) + (N - zpd f 2) ≤ (N - zpd f 3) + (N - zpd f 0) ∧ (N - zpd f 1) + (N - zpd f 4) ≤ (N - zpd f 5) + (N - zpd f 0) ∧ (N - zpd f 2) + (N - zpd f 4) ≤ (N - zpd f 6) + (N - zpd f 0) ∧ (N - zpd f 1) + (N - zpd f 6) ≤ (N - zpd f 7) + (N - zpd f 0) ∧ (N - zpd f 2) + (N - zpd f 5) ≤ (N - zpd f 7) + (N - zpd f 0) ∧ (N - zpd f 4) + (N - zpd f 3) ≤ (N - zpd f 7) + (N - zpd f 0) ∧ (N - zpd f 3) + (N - zpd f 5) ≤ (N - zpd f 7) + (N - zpd f 1) ∧ (N - zpd f 3) + (N - zpd f 6) ≤ (N - zpd f 7) + (N - zpd f 2) ∧ (N - zpd f 5) + (N - zpd f 6) ≤ (N - zpd f 7) + (N - zpd f 4) := by decide +kernel
theorem zbd_sup {N F : Nat → Nat} {S : Nat → Bool} : ∀ m, (∀ i, i < m → S i = true → (N i = 1 ∨ N i = 2) ∧ F i < 8) → zsup (zbd N F S m)
  | 0, _ => by unfold zsup zbd; simp [zsS]
  | m + 1, h => by
    obtain ⟨s1, s2, s3, s4, s5, s6, s7, s8, s9⟩ := zbd_sup m (fun i hi => h i (by omega))
    unfold zbd at s1 s2 s3 s4 s5 s6 s7 s8 s9
    unfold zsup zbd
    simp only [zsS]
    cases e : S m
    · simp only [Bool.false_eq_true, reduceIte, Nat.add_zero]
      exact ⟨s1, s2, s3, s4, s5, s6, s7, s8, s9⟩
    · obtain ⟨hn, hf⟩ := h m (by omega) e
      obtain ⟨t1, t2, t3, t4, t5, t6, t7, t8, t9⟩ := zsup1 (N m) (by omega) (F m) hf
      simp only [reduceIte]
      refine ⟨?_, ?_, ?_, ?_, ?_, ?_, ?_, ?_, ?_⟩ <;> omega
theorem zrM_sub {r : Nat → Nat} {x : Nat} : ∀ H, zrM (fun k => r k - y3 x k) H ≤ zrM r H := fun H => by
  unfold zrM
  dsimp only
  have a : ∀ k, y3 H k * (r k - y3 x k) ≤ y3 H k * r k := fun k => Nat.mul_le_mul_left _ (Nat.sub_le _ _)
  have := a 0
  have := a 1
  have := a 2
  omega
theorem zhall1 {N F : Nat → Nat} {S : Nat → Bool} : ∀ m, (∀ i, i < m → S i = true → (N i = 1 ∨ N i = 2) ∧ F i < 8) → ∀ r, zFB N F m S r → zFA N F m S r
  | 0, _, r, _ => ⟨fun _ => 0, fun i hi => by omega, fun k _ => Nat.zero_le _⟩
  | m + 1, h, r, hB => by
    cases e : S m
    · have hB' : zFB N F m S r := fun H hH => by
        have := hB H hH
        unfold zbd at this ⊢
        rw [zsS, e] at this
        simpa using this
      obtain ⟨σ, a, b⟩ := zhall1 m (fun i hi => h i (by omega)) r hB'
      refine ⟨σ, fun i hi hS => ?_, fun k hk => ?_⟩
      · by_cases z : i = m
        · rw [z, e] at hS; cases hS
        · exact a i (by omega) hS
      · rw [zsS, e]; simpa using b k hk
    · obtain ⟨hn, hf⟩ := h m (by omega) e
      have hy : zhyp (zbd N F S m) r (N m) (F m) := fun H hH => by
        have := hB H hH
        unfold zbd at this ⊢
        rw [zsS, e] at this
        simpa using this
      obtain ⟨x, x1, x2, x3⟩ := zhk hn hf (zbd_sup m (fun i hi => h i (by omega))) hy
      obtain ⟨σ, a, b⟩ := zhall1 m (fun i hi => h i (by omega)) (fun k => r k - y3 x k) x3
      refine ⟨fun i => if i = m then x else σ i, fun i hi hS => ?_, fun k hk => ?_⟩
      · by_cases z : i = m
        · simp only [z, reduceIte]; exact x1
        · simp only [z, reduceIte]; exact a i (by omega) hS
      · have := b k hk
        dsimp only at this
        have := x2 k hk
        rw [zsS, e, zsS_congr (g' := fun i => y3 (σ i) k) (S' := S) m (fun _ _ => rfl) (fun i hi _ => by simp only [show ¬ i = m by omega, reduceIte])]
        simp only [reduceIte]
        omega
theorem zhall3 : ∀ x, x < 8 → ∀ f, f < 8 → ∀ H, H < 8 → x &&& f = x → zpc x - zpd f H ≤ y3 H 0 * y3 x 0 + y3 H 1 * y3 x 1 + y3 H 2 * y3 x 2 := by decide +kernel
theorem zhall4 {N F : Nat → Nat} {S : Nat → Bool} {σ : Nat → Nat} {H : Nat} (hH : H < 8) : ∀ m, (∀ i, i < m → S i = true → (N i = 1 ∨ N i = 2) ∧ F i < 8) → (∀ i, i < m → S i = true → zopt (N i) (F i) (σ i)) → zbd N F S m H ≤ y3 H 0 * zsS (fun i => y3 (σ i) 0) S m + y3 H 1 * zsS (fun i => y3 (σ i) 1) S m + y3 H 2 * zsS (fun i => y3 (σ i) 2) S m
  | 0, _, _ => Nat.zero_le _
  | m + 1, h, a => by
    have ih := zhall4 hH m (fun i hi => h i (by omega)) (fun i hi => a i (by omega))
    unfold zbd at ih ⊢
    simp only [zsS]
    cases e : S m
    · simp only [Bool.false_eq_true, reduceIte, Nat.add_zero]; exact ih
    · obtain ⟨x1, x2, x3⟩ := a m (by omega) e
      have := zhall3 (σ m) x1 (F m) (h m (by omega) e).2 H hH x2
      rw [x3] at this
      simp only [reduceIte, Nat.mul_add]
      omega
theorem zhall2 {N F : Nat → Nat} {S : Nat → Bool} {m : Nat} (h : ∀ i, i < m → S i = true → (N i = 1 ∨ N i = 2) ∧ F i < 8) {r : Nat → Nat} (hA : zFA N F m S r) : zFB N F m S r := by
  obtain ⟨σ, a, b⟩ := hA
  intro H hH
  refine Nat.le_trans (zhall4 hH m h a) ?_
  have c0 := Nat.mul_le_mul_left (y3 H 0) (b 0 (by decide))
  have c1 := Nat.mul_le_mul_left (y3 H 1) (b 1 (by decide))
  have c2 := Nat.mul_le_mul_left (y3 H 2) (b 2 (by decide))
  unfold zrM
  omega
theorem zFB_congr {N F : Nat → Nat} {m : Nat} {S S' : Nat → Bool} {r : Nat → Nat} (h : ∀ i, i < m → S i = S' i) (hB : zFB N F m S r) : zFB N F m S' r := fun H hH => by
  have := hB H hH
  unfold zbd at this ⊢
  rw [← zsS_congr (g := fun i => N i - zpd (F i) H) m h (fun _ _ _ => rfl)]
  exact this
theorem zFB_none {N F : Nat → Nat} {m : Nat} {S : Nat → Bool} {r : Nat → Nat} (h : ∀ i, i < m → S i = false) : zFB N F m S r := fun H hH => by
  unfold zbd
  rw [zsS_none m h]
  exact Nat.zero_le _
/-! the least cost over days, set by set -/
def zMin (R : Nat) (Q : Nat → Prop) : Prop := Q R ∧ ∀ c, Q c → R ≤ c
theorem zMin_eq {R R' : Nat} {Q : Nat → Prop} (h : zMin R Q) (h' : zMin R' Q) : R = R' := Nat.le_antisymm (h.2 _ h'.1) (h'.2 _ h.1)
def zAch (P : Nat → Nat → Nat) (N F : Nat → Nat) (m : Nat) (ρ : Nat → Nat) (d : Nat) (S : Nat → Bool) (c : Nat) : Prop := ∃ f : Nat → Nat, (∀ i, i < m → S i = true → d ≤ f i ∧ f i ≤ 5) ∧ (∀ e, d ≤ e → e < 5 → zFB N F m (fun i => S i && decide (f i = e)) (fun k => ρ (3 * e + k))) ∧ c = zsS (fun i => P i (f i)) S m
theorem zAch5 {P : Nat → Nat → Nat} {N F : Nat → Nat} {m : Nat} {ρ : Nat → Nat} {S : Nat → Bool} : zMin (zsS (fun i => P i 5) S m) (zAch P N F m ρ 5 S) := by
  refine ⟨⟨fun _ => 5, fun _ _ _ => ⟨Nat.le_refl _, Nat.le_refl _⟩, fun e h1 h2 => by omega, rfl⟩, fun c ⟨f, f1, f2, f3⟩ => ?_⟩
  rw [f3]
  exact Nat.le_of_eq (zsS_congr m (fun _ _ => rfl) (fun i hi hS => by rw [show f i = 5 by have := f1 i hi hS; omega]))
theorem zAch_le {P : Nat → Nat → Nat} {N F : Nat → Nat} {m : Nat} {ρ : Nat → Nat} {d : Nat} {S : Nat → Bool} {B : Nat} (hP : ∀ i, i < m → ∀ d, d ≤ 5 → P i d ≤ B) {c : Nat} (h : zAch P N F m ρ d S c) : c ≤ B * m := by
  obtain ⟨f, f1, f2, f3⟩ := h
  rw [f3]
  exact zsS_le m (fun i hi hS => hP i hi _ (f1 i hi hS).2)
def zmk (B : Nat → Bool) : Nat → Nat
  | 0 => 0
  | m + 1 => zmk B m + if B m then 2 ^ m else 0
theorem zmk_lt (B : Nat → Bool) : ∀ m, zmk B m < 2 ^ m
  | 0 => Nat.zero_lt_one
  | m + 1 => by
    have := zmk_lt B m
    rw [zmk, Nat.pow_succ]
    split <;> omega
theorem zmk_bit (B : Nat → Bool) : ∀ m j, j < m → (zmk B m).testBit j = B j
  | 0, j, h => by omega
  | m + 1, j, h => by
    have lt := zmk_lt B m
    rw [zmk]
    by_cases z : j = m
    · subst z
      cases e : B j
      · simp only [Bool.false_eq_true, reduceIte, Nat.add_zero]
        exact Nat.testBit_lt_two_pow lt
      · simp only [reduceIte]
        rw [Nat.add_comm, Nat.testBit_two_pow_add_eq, Nat.testBit_lt_two_pow lt]
        rfl
    · cases e : B m
      · simp only [Bool.false_eq_true, reduceIte, Nat.add_zero]
        exact zmk_bit B m j (by omega)
      · simp only [reduceIte]
        rw [Nat.add_comm, Nat.testBit_two_pow_add_gt (by omega)]
        exact zmk_bit B m j (by omega)
theorem zmk_out (B : Nat → Bool) {m j : Nat} (h : m ≤ j) : (zmk B m).testBit j = false :=
  Nat.testBit_lt_two_pow (Nat.lt_of_lt_of_le (zmk_lt B m) (Nat.pow_le_pow_right (by decide) h))
theorem zstep {P : Nat → Nat → Nat} {N F : Nat → Nat} {m : Nat} {ρ : Nat → Nat} {d : Nat} (hd : d < 5) {old : Nat → Nat} {S R : Nat} (hS : S < 2 ^ m)
    (ho : ∀ M, M &&& S = M → zMin (old M) (zAch P N F m ρ (d + 1) (Nat.testBit M)))
    (h1 : R ≤ old S)
    (h2 : ∀ T, 0 < T → T &&& S = T → zFB N F m (Nat.testBit T) (fun k => ρ (3 * d + k)) → R ≤ zsS (fun i => P i d) (Nat.testBit T) m + old (S ^^^ T))
    (h3 : R = old S ∨ ∃ T, 0 < T ∧ T &&& S = T ∧ zFB N F m (Nat.testBit T) (fun k => ρ (3 * d + k)) ∧ R = zsS (fun i => P i d) (Nat.testBit T) m + old (S ^^^ T)) :
    zMin R (zAch P N F m ρ d (Nat.testBit S)) := by
  have hsub : ∀ T, T &&& S = T → ∀ i, T.testBit i = true → S.testBit i = true := fun T hT i hi => by
    rw [← hT, Nat.testBit_and, Bool.and_eq_true] at hi
    exact hi.2
  have hx : ∀ T, T &&& S = T → (S ^^^ T) &&& S = S ^^^ T := fun T hT => by
    apply Nat.eq_of_testBit_eq
    intro i
    rw [Nat.testBit_and, Nat.testBit_xor]
    have := hsub T hT i
    revert this
    cases S.testBit i <;> cases T.testBit i <;> simp
  refine ⟨?_, fun c ⟨f, f1, f2, f3⟩ => ?_⟩
  · rcases h3 with h3 | ⟨T, t0, t1, t2, t3⟩
    · obtain ⟨⟨f, f1, f2, f3⟩, -⟩ := ho S (Nat.and_self S)
      refine ⟨f, fun i hi hSi => ⟨by have := f1 i hi hSi; omega, (f1 i hi hSi).2⟩, fun e e1 e2 => ?_, by rw [h3, f3]⟩
      by_cases z : e = d
      · refine zFB_none (fun i hi => ?_)
        cases s : S.testBit i
        · rfl
        · have := f1 i hi s
          rw [Bool.true_and]
          exact decide_eq_false (by omega)
      · exact f2 e (by omega) e2
    · obtain ⟨⟨f, f1, f2, f3⟩, -⟩ := ho (S ^^^ T) (hx T t1)
      have nb : ∀ i, ¬ T.testBit i = true → T.testBit i = false := fun i hh => by simpa using hh
      refine ⟨fun i => if T.testBit i then d else f i, fun i hi hSi => ?_, fun e e1 e2 => ?_, ?_⟩
      · dsimp only
        by_cases tb : T.testBit i = true
        · rw [if_pos tb]; omega
        · have := f1 i hi (by rw [Nat.testBit_xor, hSi, nb i tb]; rfl)
          rw [if_neg tb]; omega
      · by_cases z : e = d
        · subst z
          refine zFB_congr (fun i hi => ?_) t2
          by_cases tb : T.testBit i = true
          · simp only [if_pos tb]
            rw [hsub T t1 i tb, tb]; simp
          · simp only [if_neg tb]
            rw [nb i tb]
            by_cases sb : S.testBit i = true
            · have := f1 i hi (by rw [Nat.testBit_xor, sb, nb i tb]; rfl)
              rw [sb, Bool.true_and]
              exact (decide_eq_false (by omega)).symm
            · rw [show S.testBit i = false by simpa using sb]; rfl
        · refine zFB_congr (fun i hi => ?_) (f2 e (by omega) e2)
          by_cases tb : T.testBit i = true
          · simp only [if_pos tb]
            rw [Nat.testBit_xor, tb, hsub T t1 i tb]
            simp [show ¬ d = e from fun w => z w.symm]
          · simp only [if_neg tb]
            rw [Nat.testBit_xor, nb i tb, Bool.xor_false]
      · rw [t3, f3, zsS_part (g := fun i => P i (if T.testBit i then d else f i)) (T := fun i => T.testBit i) (R := fun i => (S ^^^ T).testBit i) m (fun i hi => by
          rw [Nat.testBit_xor]
          have := hsub T t1 i
          revert this
          cases S.testBit i <;> cases T.testBit i <;> simp) (fun i hi tb => by rw [Nat.testBit_xor, hsub T t1 i tb, tb]; rfl)]
        congr 1
        · exact zsS_congr m (fun _ _ => rfl) (fun i hi tb => by simp only [tb, reduceIte])
        · refine zsS_congr m (fun _ _ => rfl) (fun i hi tb => ?_)
          have : T.testBit i = false := by
            rw [Nat.testBit_xor] at tb
            have := hsub T t1 i
            cases e : T.testBit i
            · rfl
            · rw [e, this e] at tb; cases tb
          simp only [this, Bool.false_eq_true, reduceIte]
  · generalize hT : zmk (fun i => S.testBit i && decide (f i = d)) m = T
    have tb : ∀ i, T.testBit i = (S.testBit i && decide (f i = d)) := fun i => by
      by_cases hi : i < m
      · rw [← hT]; exact zmk_bit _ m i hi
      · rw [← hT, zmk_out _ (by omega), Nat.testBit_lt_two_pow (Nat.lt_of_lt_of_le hS (Nat.pow_le_pow_right (by decide) (by omega)))]
        rfl
    have t1 : T &&& S = T := by
      apply Nat.eq_of_testBit_eq
      intro i
      rw [Nat.testBit_and, tb]
      cases S.testBit i <;> simp
    have xb : ∀ i, (S ^^^ T).testBit i = (S.testBit i && !(decide (f i = d))) := fun i => by
      rw [Nat.testBit_xor, tb]
      cases S.testBit i <;> simp
    have rest : zAch P N F m ρ (d + 1) (Nat.testBit (S ^^^ T)) (zsS (fun i => P i (f i)) (Nat.testBit (S ^^^ T)) m) := by
      refine ⟨f, fun i hi hb => ?_, fun e e1 e2 => ?_, rfl⟩
      · rw [xb, Bool.and_eq_true, Bool.not_eq_true'] at hb
        have := f1 i hi hb.1
        have := of_decide_eq_false hb.2
        omega
      · refine zFB_congr (fun i hi => ?_) (f2 e (by omega) e2)
        rw [xb]
        by_cases z : f i = e
        · rw [decide_eq_true z, decide_eq_false (show ¬ f i = d by omega)]; simp
        · rw [decide_eq_false z]; simp
    have le := (ho (S ^^^ T) (hx T t1)).2 _ rest
    have hsum : c = zsS (fun i => P i d) (Nat.testBit T) m + zsS (fun i => P i (f i)) (Nat.testBit (S ^^^ T)) m := by
      rw [f3, zsS_part (g := fun i => P i (f i)) (T := fun i => T.testBit i) (R := fun i => (S ^^^ T).testBit i) m (fun i hi => by
        rw [tb, xb]
        cases S.testBit i <;> cases decide (f i = d) <;> rfl) (fun i hi h => by
        rw [tb] at h
        rw [xb]
        revert h
        cases S.testBit i <;> cases decide (f i = d) <;> simp)]
      congr 1
      refine zsS_congr m (fun _ _ => rfl) (fun i hi h => ?_)
      rw [tb, Bool.and_eq_true, decide_eq_true_iff] at h
      rw [h.2]
    by_cases T0 : T = 0
    · rw [T0, Nat.xor_zero] at le hsum
      have : zsS (fun i => P i d) (Nat.testBit 0) m = 0 := zsS_none m (fun i _ => Nat.zero_testBit i)
      omega
    · have := h2 T (by omega) t1 (zFB_congr (fun i hi => (tb i).symm) (f2 d (Nat.le_refl d) hd))
      omega

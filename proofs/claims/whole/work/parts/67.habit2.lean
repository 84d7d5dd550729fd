/-! ===== the habit: the block of an inspector's set ===== -/
def zqS (h : zHp) (nl i k : Nat) : Bool := decide (zls (zAd h nl) 5 k = zls (zAd h nl) 5 i) && !(zroot h nl k)
def zNe (h : zHp) (nc nl i r c : Nat) : Int := if c = i then zYe h nc nl r else zMe h nl r c
theorem zroot0 (h : zHp) (nl : Nat) : zroot h nl 0 = true := by
  have := zls_le (zAd h nl) 0 5
  exact decide_eq_true (by omega)
theorem zqS_q4 (h : zHp) (nl i r : Nat) (hr : r ≤ 4) : zq4 (zqS h nl i 1) (zqS h nl i 2) (zqS h nl i 3) (zqS h nl i 4) r = zqS h nl i r := by
  match r, hr with
  | 0, _ => unfold zqS; rw [zroot0]; simp [zq4]
  | 1, _ => rfl
  | 2, _ => rfl
  | 3, _ => rfl
  | 4, _ => rfl
theorem zKm_me (h : zHp) (nl : Nat) : zKm h nl (fun r => !(zroot h nl r)) = zMe h nl := by
  funext r c
  unfold zKm zMe
  dsimp only
  by_cases e : zroot h nl r = true
  · simp [e]
  · rw [Bool.not_eq_true] at e
    simp [e]
theorem zden_pos {h : zHp} {t nc nk nl nt np : Nat} (hN : zIW h t nc nk nl nt np) : 0 < zD4 (zMe h nl) := by
  rw [← zKm_me]
  exact zKm_pos hN (fun r _ hk => by simpa using hk)
theorem zblockS {h : zHp} {nl i : Nat} {e : Nat → Nat → Int} (hi : i < 5) (h1 : ∀ c, 1 ≤ zls (zAd h nl) 5 i → 1 ≤ c → c ≤ 4 → c ≠ zls (zAd h nl) 5 i → e (zls (zAd h nl) 5 i) c = 0) (h2 : ∀ r c, 1 ≤ r → r ≤ 4 → 1 ≤ c → c ≤ 4 → zqS h nl i r = true → zqS h nl i c = false → c ≠ zls (zAd h nl) 5 i → e r c = 0) : zD4 e = zBk e (zqS h nl i 1) (zqS h nl i 2) (zqS h nl i 3) (zqS h nl i 4) * zBk (zcl (zls (zAd h nl) 5 i) e) (!(zqS h nl i 1)) (!(zqS h nl i 2)) (!(zqS h nl i 3)) (!(zqS h nl i 4)) := by
  have sy : ∀ i j, i < 5 → j < 5 → zAd h nl i j = zAd h nl j i := fun i j _ _ => zAd_symm h nl i j
  have hl := zls_le (zAd h nl) i 5
  have rl : zroot h nl (zls (zAd h nl) 5 i) = true := decide_eq_true (zls_root sy hi)
  have nroot : ∀ r, zqS h nl i r = true → r ≠ zls (zAd h nl) 5 i := fun r hr z => by
    rw [z] at hr
    unfold zqS at hr
    rw [rl] at hr
    simp at hr
  rw [← zclean (l := zls (zAd h nl) 5 i) (by omega) h1, zblock (zcl (zls (zAd h nl) 5 i) e) (zqS h nl i 1) (zqS h nl i 2) (zqS h nl i 3) (zqS h nl i 4) (fun r c r1 r2 c1 c2 hr hc => by
    rw [zqS_q4 h nl i r r2] at hr
    rw [zqS_q4 h nl i c c2] at hc
    unfold zcl
    by_cases z : c = zls (zAd h nl) 5 i
    · rw [if_pos ⟨z, nroot r hr⟩]
    · rw [if_neg (fun w => z w.1)]
      exact h2 r c r1 r2 c1 c2 hr hc z)]
  congr 1
  exact zBk_congr _ _ _ _ (fun r c r1 r2 c1 c2 hr hc => by
    rw [zqS_q4 h nl i c c2] at hc
    unfold zcl
    rw [if_neg (fun w => nroot c hc w.1)])
theorem zJ_out {h : zHp} {t nc nk nl nt np : Nat} (hN : zIW h t nc nk nl nt np) {i r c : Nat} (hi : i < 5) (hr : r < 5) (hc : c < 5) (h1 : zqS h nl i r = true) (h2 : zqS h nl i c = false) (h3 : c ≠ zls (zAd h nl) 5 i) : zJm h nl r c = 0 := by
  have sy : ∀ i j, i < 5 → j < 5 → zAd h nl i j = zAd h nl j i := fun i j _ _ => zAd_symm h nl i j
  apply Classical.byContradiction
  intro z
  have pos : 0 < zJm h nl r c := by
    have := zJm_nn h nl r c
    omega
  have e := zls_edge sy hr hc (A := zAd h nl) (decide_eq_true pos)
  unfold zqS at h1 h2
  rw [Bool.and_eq_true, decide_eq_true_iff] at h1
  rw [decide_eq_true (show zls (zAd h nl) 5 c = zls (zAd h nl) 5 i by rw [← e]; exact h1.1), Bool.true_and] at h2
  have rc : zroot h nl c = true := by simpa using h2
  have := of_decide_eq_true rc
  apply h3
  rw [← h1.1, e, this]
theorem zqS_root {h : zHp} {nl i r : Nat} (hr : zqS h nl i r = true) : zroot h nl r = false := by
  unfold zqS at hr
  rw [Bool.and_eq_true] at hr
  simpa using hr.2
theorem zqS_self {h : zHp} {nl i : Nat} (hr : zroot h nl i = false) : zqS h nl i i = true := by
  unfold zqS
  rw [hr]
  simp
/-- the habit by the whole and by the set -/
theorem zhab {h : zHp} {t nc nk nl nt np : Nat} (hN : zIW h t nc nk nl nt np) {i : Nat} (hi : i < 5) (hr : zroot h nl i = false) : ∃ C : Int, 0 < C ∧ zD4 (zMe h nl) = zBk (zMe h nl) (zqS h nl i 1) (zqS h nl i 2) (zqS h nl i 3) (zqS h nl i 4) * C ∧ zD4 (zNe h nc nl i) = zBk (zNe h nc nl i) (zqS h nl i 1) (zqS h nl i 2) (zqS h nl i 3) (zqS h nl i 4) * C ∧ 0 < zBk (zMe h nl) (zqS h nl i 1) (zqS h nl i 2) (zqS h nl i 3) (zqS h nl i 4) := by
  have sy : ∀ i j, i < 5 → j < 5 → zAd h nl i j = zAd h nl j i := fun i j _ _ => zAd_symm h nl i j
  have hl := zls_le (zAd h nl) i 5
  have rl : zroot h nl (zls (zAd h nl) 5 i) = true := decide_eq_true (zls_root sy hi)
  have hli : zls (zAd h nl) 5 i ≠ i := fun z => by rw [z] at rl; rw [rl] at hr; cases hr
  have qi := zqS_self hr
  have bM := zblockS (h := h) (nl := nl) (e := zMe h nl) hi (fun c _ _ _ hc => by
    unfold zMe
    rw [rl, if_pos rfl, if_neg (fun z => hc z.symm)]) (fun r c r1 r2 c1 c2 hr2 hc2 hc3 => by
    unfold zMe
    rw [zqS_root hr2]
    simp only [Bool.false_eq_true, reduceIte]
    rw [if_neg (fun z => by rw [z, hc2] at hr2; cases hr2), zJ_out hN hi (by omega) (by omega) hr2 hc2 hc3, Int.neg_zero])
  have bN := zblockS (h := h) (nl := nl) (e := zNe h nc nl i) hi (fun c _ _ _ hc => by
    unfold zNe zYe zMe
    rw [rl, if_pos rfl]
    split
    · rfl
    · rw [if_pos rfl, if_neg (fun z => hc z.symm)]) (fun r c r1 r2 c1 c2 hr2 hc2 hc3 => by
    unfold zNe zMe
    rw [if_neg (fun z => by rw [z, qi] at hc2; cases hc2), zqS_root hr2]
    simp only [Bool.false_eq_true, reduceIte]
    rw [if_neg (fun z => by rw [z, hc2] at hr2; cases hr2), zJ_out hN hi (by omega) (by omega) hr2 hc2 hc3, Int.neg_zero])
  have nq : ∀ r, r ≤ 4 → 1 ≤ r → zq4 (!(zqS h nl i 1)) (!(zqS h nl i 2)) (!(zqS h nl i 3)) (!(zqS h nl i 4)) r = !(zqS h nl i r) := fun r h4 h1 => by
    match r, h1, h4 with
    | 1, _, _ => rfl
    | 2, _, _ => rfl
    | 3, _, _ => rfl
    | 4, _, _ => rfl
  have bK := zblockS (h := h) (nl := nl) (e := zKm h nl (zqS h nl i)) hi (fun c _ _ _ hc => by
    unfold zKm
    have : zqS h nl i (zls (zAd h nl) 5 i) = false := by unfold zqS; rw [rl]; simp
    rw [this]
    simp only [Bool.false_eq_true, reduceIte]
    rw [if_neg (fun z => hc z.symm)]) (fun r c r1 r2 c1 c2 hr2 hc2 hc3 => by
    unfold zKm
    rw [hr2, if_pos rfl, if_neg (fun z => by rw [z, hc2] at hr2; cases hr2), zJ_out hN hi (by omega) (by omega) hr2 hc2 hc3, Int.neg_zero])
  have pK := zKm_pos hN (keep := zqS h nl i) (fun r _ hk => zqS_root hk)
  have cK : zBk (zcl (zls (zAd h nl) 5 i) (zKm h nl (zqS h nl i))) (!(zqS h nl i 1)) (!(zqS h nl i 2)) (!(zqS h nl i 3)) (!(zqS h nl i 4)) = 1 := zBk_id _ _ _ _ (fun r c r1 r2 c1 c2 hr2 hc2 => by
    rw [nq r r2 r1] at hr2
    have hr3 : zqS h nl i r = false := by simpa using hr2
    unfold zcl zKm
    rw [hr3]
    simp only [Bool.false_eq_true, reduceIte]
    by_cases z : r = c
    · subst z
      rw [if_neg (fun w => w.2 w.1)]
    · rw [if_neg z]
      split <;> rfl)
  have eK : zBk (zKm h nl (zqS h nl i)) (zqS h nl i 1) (zqS h nl i 2) (zqS h nl i 3) (zqS h nl i 4) = zBk (zMe h nl) (zqS h nl i 1) (zqS h nl i 2) (zqS h nl i 3) (zqS h nl i 4) := zBk_congr _ _ _ _ (fun r c r1 r2 c1 c2 hr2 hc2 => by
    rw [zqS_q4 h nl i r r2] at hr2
    unfold zKm zMe
    rw [hr2, zqS_root hr2]
    simp)
  have eN : zBk (zcl (zls (zAd h nl) 5 i) (zNe h nc nl i)) (!(zqS h nl i 1)) (!(zqS h nl i 2)) (!(zqS h nl i 3)) (!(zqS h nl i 4)) = zBk (zcl (zls (zAd h nl) 5 i) (zMe h nl)) (!(zqS h nl i 1)) (!(zqS h nl i 2)) (!(zqS h nl i 3)) (!(zqS h nl i 4)) := zBk_congr _ _ _ _ (fun r c r1 r2 c1 c2 hr2 hc2 => by
    rw [nq c c2 c1] at hc2
    have hc3 : zqS h nl i c = false := by simpa using hc2
    unfold zcl
    split
    · rfl
    · unfold zNe
      rw [if_neg (fun z => by rw [z, qi] at hc3; cases hc3)])
  rw [bK, cK, eK, Int.mul_one] at pK
  have pM := zden_pos hN
  rw [bM] at pM
  rw [eN] at bN
  exact ⟨_, zposm pK pM, bM, bN, pK⟩
/-- a fraction, brought down -/
theorem zfrac {a b C : Int} (hC : 0 < C) : (a * C).tdiv (Int.gcd (a * C) (b * C) : Nat) = a.tdiv (Int.gcd a b : Nat) ∧ (b * C).tdiv (Int.gcd (a * C) (b * C) : Nat) = b.tdiv (Int.gcd a b : Nat) := by
  have e : ((Int.gcd (a * C) (b * C) : Nat) : Int) = (Int.gcd a b : Nat) * C := by
    rw [Int.gcd_mul_right, Int.natCast_mul, Int.natAbs_of_nonneg (by omega)]
  rw [e]
  exact ⟨Int.mul_tdiv_mul_of_pos_left _ _ hC, Int.mul_tdiv_mul_of_pos_left _ _ hC⟩
theorem zdRB {q1 q2 q3 q4 : Bool} {e E : Nat → Nat → Int} {of : Nat → Nat} {n : Nat} (hn : n = zcn (zq4 q1 q2 q3 q4) 5) (h1 : 1 ≤ n) (hof : ∀ j, zq4 q1 q2 q3 q4 j = true → of (zcn (zq4 q1 q2 q3 q4) j) = j) (hE : ∀ r c, r < n → c < n → E r c = e (of r) (of c)) : dR n E (zfac n) = zBk e q1 q2 q3 q4 := by
  have o1 := hof 1
  have o2 := hof 2
  have o3 := hof 3
  have o4 := hof 4
  clear hof
  subst hn
  cases q1 <;> cases q2 <;> cases q3 <;> cases q4 <;> simp [zcn, zq4] at o1 o2 o3 o4 hE h1 ⊢ <;>
    first
    | (show dR 1 E 1 = _; rw [dR1]; simp [zBk, *]; done)
    | (show dR 2 E 2 = _; rw [dR2]; simp [g2D, zBk, *]; done)
    | (show dR 3 E 6 = _; rw [dR3]; simp [g3D, g2D, zBk, *]; done)
    | (show dR 4 E 24 = _; rw [dR4]; simp [g4D, g3D, g2D, zBk, *]; done)
/-! bounds -/
theorem zMe_bd {h : zHp} {t nc nk nl nt np : Nat} (hN : zIW h t nc nk nl nt np) {r c : Nat} (hr : r < 5) (hc : c < 5) : (zMe h nl r c).natAbs ≤ 3160 := by
  have a := zDm_bd hN r
  have b := zJm_le hN hr hc
  have b0 := zJm_nn h nl r c
  unfold zMe
  split
  · split <;> decide
  · split <;> omega
theorem zYe_bd {h : zHp} {t nc nk nl nt np : Nat} (hN : zIW h t nc nk nl nt np) (r : Nat) : (zYe h nc nl r).natAbs ≤ 3160000 := by
  have a := zAm_bd hN r
  unfold zYe
  split
  · decide
  · omega
theorem zden_bd {h : zHp} {t nc nk nl nt np : Nat} (hN : zIW h t nc nk nl nt np) : (zD4 (zMe h nl)).natAbs ≤ 2393112000000000 := by
  have := g4_bd (e := zMe h nl) (b := fun _ => 3160) (fun r c r1 r2 c1 c2 => zMe_bd hN (by omega) (by omega))
  omega
theorem znum_bd {h : zHp} {t nc nk nl nt np : Nat} (hN : zIW h t nc nk nl nt np) {i : Nat} (hi : i < 5) : (zD4 (zNe h nc nl i)).natAbs ≤ 2393112000000000000 := by
  have := g4_bd (e := zNe h nc nl i) (b := fun c => if c = i then 3160000 else 3160) (fun r c r1 r2 c1 c2 => by
    unfold zNe
    split
    · exact zYe_bd hN r
    · exact zMe_bd hN (by omega) (by omega))
  match i, hi with
  | 0, _ => simp at this; omega
  | 1, _ => simp at this; omega
  | 2, _ => simp at this; omega
  | 3, _ => simp at this; omega
  | 4, _ => simp at this; omega

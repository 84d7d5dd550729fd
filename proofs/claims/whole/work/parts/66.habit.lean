/-! ===== the habit: both answers ===== -/
theorem zBk_congr {e e' : Nat → Nat → Int} (q1 q2 q3 q4 : Bool) (h : ∀ r c, 1 ≤ r → r ≤ 4 → 1 ≤ c → c ≤ 4 → zq4 q1 q2 q3 q4 r = true → zq4 q1 q2 q3 q4 c = true → e r c = e' r c) : zBk e q1 q2 q3 q4 = zBk e' q1 q2 q3 q4 := by
  have k : ∀ r c, 1 ≤ r ∧ r ≤ 4 ∧ 1 ≤ c ∧ c ≤ 4 → zq4 q1 q2 q3 q4 r = true → zq4 q1 q2 q3 q4 c = true → e r c = e' r c := fun r c z => h r c z.1 z.2.1 z.2.2.1 z.2.2.2
  have k11 := k 1 1 (by decide)
  have k12 := k 1 2 (by decide)
  have k13 := k 1 3 (by decide)
  have k14 := k 1 4 (by decide)
  have k21 := k 2 1 (by decide)
  have k22 := k 2 2 (by decide)
  have k23 := k 2 3 (by decide)
  have k24 := k 2 4 (by decide)
  have k31 := k 3 1 (by decide)
  have k32 := k 3 2 (by decide)
  have k33 := k 3 3 (by decide)
  have k34 := k 3 4 (by decide)
  have k41 := k 4 1 (by decide)
  have k42 := k 4 2 (by decide)
  have k43 := k 4 3 (by decide)
  have k44 := k 4 4 (by decide)
  clear h k
  cases q1 <;> cases q2 <;> cases q3 <;> cases q4 <;>
    simp only [zq4, forall_const, Bool.false_eq_true, false_implies, implies_true] at k11 k12 k13 k14 k21 k22 k23 k24 k31 k32 k33 k34 k41 k42 k43 k44 <;>
    simp only [zBk, g4D, g3D, g2D, *]
theorem zBk_id {e : Nat → Nat → Int} (q1 q2 q3 q4 : Bool) (h : ∀ r c, 1 ≤ r → r ≤ 4 → 1 ≤ c → c ≤ 4 → zq4 q1 q2 q3 q4 r = true → zq4 q1 q2 q3 q4 c = true → e r c = if r = c then 1 else 0) : zBk e q1 q2 q3 q4 = 1 := by
  rw [zBk_congr q1 q2 q3 q4 (e' := fun r c => if r = c then 1 else 0) h]
  cases q1 <;> cases q2 <;> cases q3 <;> cases q4 <;> decide
theorem zD4_row0 {e : Nat → Nat → Int} {r : Nat} (h1 : 1 ≤ r) (h2 : r ≤ 4) (h : ∀ c, 1 ≤ c → c ≤ 4 → e r c = 0) : zD4 e = 0 := by
  have a := h 1 (by decide) (by decide)
  have b := h 2 (by decide) (by decide)
  have c := h 3 (by decide) (by decide)
  have d := h 4 (by decide) (by decide)
  match r, h1, h2 with
  | 1, _, _ => simp [zD4, g4D, g3D, g2D, a, b, c, d]
  | 2, _, _ => simp [zD4, g4D, g3D, g2D, a, b, c, d]
  | 3, _, _ => simp [zD4, g4D, g3D, g2D, a, b, c, d]
  | 4, _, _ => simp [zD4, g4D, g3D, g2D, a, b, c, d]
/-! bounds -/
theorem g2_bd {e : Nat → Nat → Int} {b : Nat → Nat} (h : ∀ r c, 1 ≤ r → r ≤ 4 → 1 ≤ c → c ≤ 4 → (e r c).natAbs ≤ b c) {x y p q : Nat} (hx : 1 ≤ x ∧ x ≤ 4) (hy : 1 ≤ y ∧ y ≤ 4) (hp : 1 ≤ p ∧ p ≤ 4) (hq : 1 ≤ q ∧ q ≤ 4) : (g2D e x y p q).natAbs ≤ 2 * (b p * b q) := by
  have k1 := zna_mul (h x p hx.1 hx.2 hp.1 hp.2) (h y q hy.1 hy.2 hq.1 hq.2)
  have k2 := zna_mul (h x q hx.1 hx.2 hq.1 hq.2) (h y p hy.1 hy.2 hp.1 hp.2)
  rw [Nat.mul_comm (b q) (b p)] at k2
  unfold g2D
  generalize b p * b q = m at *
  omega
theorem g3_bd {e : Nat → Nat → Int} {b : Nat → Nat} (h : ∀ r c, 1 ≤ r → r ≤ 4 → 1 ≤ c → c ≤ 4 → (e r c).natAbs ≤ b c) {x y z p q r : Nat} (hx : 1 ≤ x ∧ x ≤ 4) (hy : 1 ≤ y ∧ y ≤ 4) (hz : 1 ≤ z ∧ z ≤ 4) (hp : 1 ≤ p ∧ p ≤ 4) (hq : 1 ≤ q ∧ q ≤ 4) (hr : 1 ≤ r ∧ r ≤ 4) : (g3D e x y z p q r).natAbs ≤ 6 * (b p * (b q * b r)) := by
  have k1 := zna_mul (h x p hx.1 hx.2 hp.1 hp.2) (g2_bd h hy hz hq hr)
  have k2 := zna_mul (h x q hx.1 hx.2 hq.1 hq.2) (g2_bd h hy hz hp hr)
  have k3 := zna_mul (h x r hx.1 hx.2 hr.1 hr.2) (g2_bd h hy hz hp hq)
  rw [show b p * (2 * (b q * b r)) = 2 * (b p * (b q * b r)) from by ac_rfl] at k1
  rw [show b q * (2 * (b p * b r)) = 2 * (b p * (b q * b r)) from by ac_rfl] at k2
  rw [show b r * (2 * (b p * b q)) = 2 * (b p * (b q * b r)) from by ac_rfl] at k3
  unfold g3D
  generalize b p * (b q * b r) = m at *
  omega
theorem g4_bd {e : Nat → Nat → Int} {b : Nat → Nat} (h : ∀ r c, 1 ≤ r → r ≤ 4 → 1 ≤ c → c ≤ 4 → (e r c).natAbs ≤ b c) : (zD4 e).natAbs ≤ 24 * (b 1 * (b 2 * (b 3 * b 4))) := by
  have k1 := zna_mul (h 1 1 (by decide) (by decide) (by decide) (by decide)) (g3_bd (x := 2) (y := 3) (z := 4) (p := 2) (q := 3) (r := 4) h (by decide) (by decide) (by decide) (by decide) (by decide) (by decide))
  have k2 := zna_mul (h 1 2 (by decide) (by decide) (by decide) (by decide)) (g3_bd (x := 2) (y := 3) (z := 4) (p := 1) (q := 3) (r := 4) h (by decide) (by decide) (by decide) (by decide) (by decide) (by decide))
  have k3 := zna_mul (h 1 3 (by decide) (by decide) (by decide) (by decide)) (g3_bd (x := 2) (y := 3) (z := 4) (p := 1) (q := 2) (r := 4) h (by decide) (by decide) (by decide) (by decide) (by decide) (by decide))
  have k4 := zna_mul (h 1 4 (by decide) (by decide) (by decide) (by decide)) (g3_bd (x := 2) (y := 3) (z := 4) (p := 1) (q := 2) (r := 3) h (by decide) (by decide) (by decide) (by decide) (by decide) (by decide))
  rw [show b 1 * (6 * (b 2 * (b 3 * b 4))) = 6 * (b 1 * (b 2 * (b 3 * b 4))) from by ac_rfl] at k1
  rw [show b 2 * (6 * (b 1 * (b 3 * b 4))) = 6 * (b 1 * (b 2 * (b 3 * b 4))) from by ac_rfl] at k2
  rw [show b 3 * (6 * (b 1 * (b 2 * b 4))) = 6 * (b 1 * (b 2 * (b 3 * b 4))) from by ac_rfl] at k3
  rw [show b 4 * (6 * (b 1 * (b 2 * b 3))) = 6 * (b 1 * (b 2 * (b 3 * b 4))) from by ac_rfl] at k4
  unfold zD4 g4D
  generalize b 1 * (b 2 * (b 3 * b 4)) = m at *
  omega
/-! the matrices -/
theorem zJm_rr {h : zHp} {t nc nk nl nt np : Nat} (hN : zIW h t nc nk nl nt np) (i : Nat) : zJm h nl i i = 0 := by
  have hl := hN.2.2.2.2.2.1
  have e : zP1 (zfJ h i i) nl = zP1 (fun _ _ => 0) nl := zP1_congr (N := nl) (fun a b ha hb => by
    unfold zfJ
    rcases zd_01 h a b with e | e
    · rw [e, Int.zero_mul]
    · have hne := zd_in hl ha hb e
      rw [if_neg (fun z => hne (z.1.trans z.2.symm))]
      simp) nl (Nat.le_refl _)
  have z : ∀ n, zP1 (fun _ _ => 0) n = 0 := fun n => by
    induction n with
    | zero => rfl
    | succ n ih =>
      have r : ∀ m, zrow (fun _ => 0) 0 m = 0 := fun m => by
        induction m with
        | zero => rfl
        | succ m ih => rw [zrow, ih]; simp
      rw [zP1, ih, r]
      rfl
  unfold zJm
  rw [e, z]
theorem zJm_le {h : zHp} {t nc nk nl nt np : Nat} (hN : zIW h t nc nk nl nt np) {i k : Nat} (hi : i < 5) (hk : k < 5) : zJm h nl i k ≤ 3160 := by
  have d := zDm_sum hN hi
  have b := zDm_bd hN i
  have n0 := zJm_nn h nl i 0
  have n1 := zJm_nn h nl i 1
  have n2 := zJm_nn h nl i 2
  have n3 := zJm_nn h nl i 3
  have n4 := zJm_nn h nl i 4
  match k, hk with
  | 0, _ => omega
  | 1, _ => omega
  | 2, _ => omega
  | 3, _ => omega
  | 4, _ => omega
/-- rows that are kept, the others of the unit -/
def zKm (h : zHp) (nl : Nat) (keep : Nat → Bool) (r c : Nat) : Int := if keep r then (if r = c then zDm h nl r else -(zJm h nl r c)) else if r = c then 1 else 0
theorem zKm_pos {h : zHp} {t nc nk nl nt np : Nat} (hN : zIW h t nc nk nl nt np) {keep : Nat → Bool} (hk : ∀ r, r < 5 → keep r = true → zroot h nl r = false) : 0 < zD4 (zKm h nl keep) := by
  have sy : ∀ i j, i < 5 → j < 5 → zAd h nl i j = zAd h nl j i := fun i j _ _ => zAd_symm h nl i j
  have hp : zPr 4 (fun r c => if keep r then zJm h nl r c else 0) (fun r => if keep r then zJm h nl r 0 else 1) := by
    refine ⟨fun i j _ _ _ _ => ?_, fun i _ _ => ?_, fun U u u1 u2 hU => ?_⟩
    · have := zJm_nn h nl i j
      simp only
      split <;> omega
    · have := zJm_nn h nl i 0
      simp only
      split <;> omega
    · apply Classical.byContradiction
      intro z
      have allk : ∀ x, 1 ≤ x → x ≤ 4 → U x = true → keep x = true := fun x x1 x2 x3 => by
        cases e : keep x
        · exact absurd ⟨x, x1, x2, x3, Or.inl (by simp [e])⟩ z
        · rfl
      rcases zls_out sy (fun x => U x && (decide (1 ≤ x) && decide (x ≤ 4))) (u := u) (by omega) (by simp [hU, u1, u2]) with ⟨x, x1, x2, x3⟩ | ⟨x, y, x1, y1, x2, y2, e⟩
      · simp only [Bool.and_eq_true, decide_eq_true_iff] at x2
        have kx := allk x x2.2.1 x2.2.2 x2.1
        have := hk x x1 kx
        unfold zroot at this
        rw [decide_eq_true x3] at this
        cases this
      · simp only [Bool.and_eq_true, decide_eq_true_iff] at x2
        have kx := allk x x2.2.1 x2.2.2 x2.1
        have pos : 0 < zJm h nl x y := of_decide_eq_true e
        by_cases y0 : y = 0
        · subst y0
          exact z ⟨x, x2.2.1, x2.2.2, x2.1, Or.inl (by simp only [kx, reduceIte]; exact pos)⟩
        · have y3 : U y = false := by
            rw [decide_eq_true (show 1 ≤ y by omega), decide_eq_true (show y ≤ 4 by omega)] at y2
            simpa using y2
          exact z ⟨x, x2.2.1, x2.2.2, x2.1, Or.inr ⟨y, by omega, by omega, y3, by simp only [kx, reduceIte]; exact pos⟩⟩
  have pos := zpos4 hp
  have e : zD4 (zKm h nl keep) = zD4 (zmt 4 (fun r c => if keep r then zJm h nl r c else 0) (fun r => if keep r then zJm h nl r 0 else 1)) := by
    have key : ∀ r c, 1 ≤ r → r ≤ 4 → 1 ≤ c → c ≤ 4 → zKm h nl keep r c = zmt 4 (fun r c => if keep r then zJm h nl r c else 0) (fun r => if keep r then zJm h nl r 0 else 1) r c := fun r c r1 r2 c1 c2 => by
      have d := zDm_sum hN (show r < 5 by omega)
      have rr := zJm_rr hN r
      unfold zKm zmt
      by_cases e : r = c
      · subst e
        simp only [reduceIte]
        cases kr : keep r
        · simp only [Bool.false_eq_true, reduceIte, zws, kr, ite_self, Int.add_zero]
        · simp only [reduceIte, zws, kr]
          match r, r1, r2 with
          | 1, _, _ => simp; omega
          | 2, _, _ => simp; omega
          | 3, _, _ => simp; omega
          | 4, _, _ => simp; omega
      · rw [if_neg e]
        simp only [e, reduceIte]
        cases kr : keep r
        · simp
        · simp
    have := zBk_congr true true true true (e := zKm h nl keep) (e' := zmt 4 (fun r c => if keep r then zJm h nl r c else 0) (fun r => if keep r then zJm h nl r 0 else 1)) (fun r c r1 r2 c1 c2 _ _ => key r c r1 r2 c1 c2)
    exact this
  rw [e]
  exact pos

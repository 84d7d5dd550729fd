/-! ===== all ways of dealing six ===== -/
def znp (f : Nat → Nat) (k x : Nat) : Nat → Nat := fun j => if j = k then x else f j
def zdc : Nat → Nat → (Nat → Nat) → List Nat
  | 0, _, _ => []
  | n + 1, w, p => p (w % (n + 1)) :: zdc n (w / (n + 1)) (znp p (w % (n + 1)) (p n))
def ztc : Nat → Nat → Nat → (Nat → Nat) → List Nat
  | 0, _, _, _ => []
  | n + 1, k, w, p => p (k + w % (n + 1)) :: ztc n (k + 1) (w / (n + 1)) (znp p (k + w % (n + 1)) (p k))
def zcode : List Nat → Nat
  | [] => 0
  | x :: l => x + 6 * zcode l
set_option maxRecDepth 100000 in
theorem zways : ((List.range 720).map (fun w => zcode (zdc 6 w id))).isPerm ((List.range 720).map (fun w => zcode (ztc 6 0 w id))) = true := by decide +kernel
set_option maxRecDepth 100000 in
theorem zdc_ok : ∀ w, w < 720 → (zdc 6 w id).isPerm [0, 1, 2, 3, 4, 5] = true := by decide +kernel
set_option maxRecDepth 100000 in
theorem ztc_ok : ∀ w, w < 720 → (ztc 6 0 w id).isPerm [0, 1, 2, 3, 4, 5] = true := by decide +kernel
theorem zcode_at : ∀ (l : List Nat) (s : Nat), (∀ x ∈ l, x < 6) → zcode l / 6 ^ s % 6 = l.getD s 0
  | [], s, _ => by rw [show zcode [] = 0 from rfl, Nat.zero_div]; simp
  | x :: l, 0, h => by
    have := h x (by simp)
    rw [zcode, Nat.pow_zero, Nat.div_one]
    show (x + 6 * zcode l) % 6 = x
    omega
  | x :: l, s + 1, h => by
    have h1 := h x (by simp)
    have ih := zcode_at l s (fun y hy => h y (by simp [hy]))
    rw [zcode, Nat.pow_succ, Nat.mul_comm (6 ^ s) 6, ← Nat.div_div_eq_div_mul]
    have : (x + 6 * zcode l) / 6 = zcode l := by omega
    rw [this, ih]
    rfl
theorem zperm6 {l : List Nat} (h : l.isPerm [0, 1, 2, 3, 4, 5] = true) : l.length = 6 ∧ ∀ x ∈ l, x < 6 := by
  have p := List.isPerm_iff.mp h
  refine ⟨p.length_eq, fun x hx => ?_⟩
  have : x ∈ [0, 1, 2, 3, 4, 5] := p.mem_iff.mp hx
  simp at this
  omega
def zcn (p : Nat → Bool) : Nat → Nat
  | 0 => 0
  | n + 1 => zcn p n + if p n then 1 else 0
theorem zcn_count (p : Nat → Bool) : ∀ n, zcn p n = (List.range n).countP p
  | 0 => rfl
  | n + 1 => by
    rw [zcn, zcn_count p n, List.range_succ, List.countP_append]
    simp [List.countP_cons]
theorem zcn_congr {p q : Nat → Bool} : ∀ n, (∀ i, i < n → p i = q i) → zcn p n = zcn q n
  | 0, _ => rfl
  | n + 1, h => by rw [zcn, zcn, zcn_congr n (fun i hi => h i (by omega)), h n (by omega)]
/-- a thing that is told by the dealing alone is so in as many ways of the one dealing as of the other -/
theorem zways_eq (P : (Nat → Nat) → Bool) (hP : ∀ f g : Nat → Nat, (∀ s, s < 6 → f s = g s) → P f = P g) : zcn (fun w => P (fun s => (zdc 6 w id).getD s 0)) 720 = zcn (fun w => P (fun s => (ztc 6 0 w id).getD s 0)) 720 := by
  have h1 : zcn (fun w => P (fun s => (zdc 6 w id).getD s 0)) 720 = zcn (fun w => P (fun s => zcode (zdc 6 w id) / 6 ^ s % 6)) 720 :=
    zcn_congr 720 fun w hw => hP _ _ fun s _ => (zcode_at _ s (zperm6 (zdc_ok w hw)).2).symm
  have h2 : zcn (fun w => P (fun s => (ztc 6 0 w id).getD s 0)) 720 = zcn (fun w => P (fun s => zcode (ztc 6 0 w id) / 6 ^ s % 6)) 720 :=
    zcn_congr 720 fun w hw => hP _ _ fun s _ => (zcode_at _ s (zperm6 (ztc_ok w hw)).2).symm
  rw [h1, h2, zcn_count, zcn_count]
  have e := (List.isPerm_iff.mp zways).countP_eq (fun c => P (fun s => c / 6 ^ s % 6))
  rw [List.countP_map, List.countP_map] at e
  exact e
/-- how many are of a kind does not change by dealing -/
theorem zperm_count {l : List Nat} (h : l.isPerm [0, 1, 2, 3, 4, 5] = true) (p : Nat → Bool) : zcn (fun s => p (l.getD s 0)) 6 = zcn p 6 := by
  have e := (List.isPerm_iff.mp h).countP_eq p
  obtain ⟨hl, -⟩ := zperm6 h
  match l, hl with
  | [a, b, c, d, e', f], _ =>
    simp only [List.countP_cons, List.countP_nil] at e
    simp only [zcn, List.getD_cons_zero, List.getD_cons_succ]
    omega

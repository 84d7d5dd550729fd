/-! ===== plain facts of reads and writes ===== -/
theorem zri_ok {h : zHp} {k n i : Nat} (hi : i < n) (hn : n < 2 ^ 31) : zri h k n (nI i) = some (h.1 k i) := by
  unfold zri
  rw [nI_clamp (by omega), if_neg]
  rintro (z | z)
  · exact nI_pos (by omega) z
  · omega
theorem zrj_ok {h : zHp} {k n i : Nat} (hi : i < n) (hn : n < 2 ^ 31) : zrj h k n (nI i) = some (h.2 k i) := by
  unfold zrj
  rw [nI_clamp (by omega), if_neg]
  rintro (z | z)
  · exact nI_pos (by omega) z
  · omega
theorem zui_ok {h : zHp} {k n i : Nat} {x : Int32} (hi : i < n) (hn : n < 2 ^ 31) : zui h k n (nI i) x = some (zwi h k i x) := by
  unfold zui
  rw [nI_clamp (by omega), if_neg]
  rintro (z | z)
  · exact nI_pos (by omega) z
  · omega
theorem zuj_ok {h : zHp} {k n i : Nat} {x : Int64} (hi : i < n) (hn : n < 2 ^ 31) : zuj h k n (nI i) x = some (zwl h k i x) := by
  unfold zuj
  rw [nI_clamp (by omega), if_neg]
  rintro (z | z)
  · exact nI_pos (by omega) z
  · omega
def zfl (h : zHp) (k i n : Nat) (v : Int32) : zHp := (va_up h.1 k (fun j => if i ≤ j ∧ j < n then v else h.1 k j), h.2)
def zflL (h : zHp) (k i n : Nat) (v : Int64) : zHp := (h.1, va_up h.2 k (fun j => if i ≤ j ∧ j < n then v else h.2 k j))
theorem zfl_end (h : zHp) (k n : Nat) (v : Int32) : zfl h k n n v = h := by
  obtain ⟨f, g⟩ := h
  unfold zfl
  congr 1
  funext a b
  simp only [va_up]
  by_cases ha : a = k
  · subst ha
    rw [if_pos rfl, if_neg (by omega)]
  · rw [if_neg ha]
theorem zflL_end (h : zHp) (k n : Nat) (v : Int64) : zflL h k n n v = h := by
  obtain ⟨f, g⟩ := h
  unfold zflL
  congr 1
  funext a b
  simp only [va_up]
  by_cases ha : a = k
  · subst ha
    rw [if_pos rfl, if_neg (by omega)]
  · rw [if_neg ha]
theorem zfl_step (h : zHp) (k i n : Nat) (v : Int32) (hi : i < n) : zfl (zwi h k i v) k (i + 1) n v = zfl h k i n v := by
  obtain ⟨f, g⟩ := h
  unfold zfl zwi
  congr 1
  funext a b
  simp only [va_up]
  by_cases ha : a = k
  · subst ha
    simp only [if_true]
    by_cases hb : b = i
    · subst hb
      rw [if_neg (by omega), pk_us, if_pos (by omega)]
    · by_cases hc : i + 1 ≤ b ∧ b < n
      · rw [if_pos hc, if_pos (by omega)]
      · rw [if_neg hc, pk_un hb, if_neg (by omega)]
  · simp only [if_neg ha]
theorem zflL_step (h : zHp) (k i n : Nat) (v : Int64) (hi : i < n) : zflL (zwl h k i v) k (i + 1) n v = zflL h k i n v := by
  obtain ⟨f, g⟩ := h
  unfold zflL zwl
  congr 1
  funext a b
  simp only [va_up]
  by_cases ha : a = k
  · subst ha
    simp only [if_true]
    by_cases hb : b = i
    · subst hb
      rw [if_neg (by omega), pk_uLs, if_pos (by omega)]
    · by_cases hc : i + 1 ≤ b ∧ b < n
      · rw [if_pos hc, if_pos (by omega)]
      · rw [if_neg hc, pk_uLn hb, if_neg (by omega)]
  · simp only [if_neg ha]
theorem zbs {α β : Type} {x : Option α} {a : α} {f : α → Option β} (h : x = some a) : x.bind f = f a := by rw [h]; rfl

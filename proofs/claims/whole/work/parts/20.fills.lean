theorem f_J7_fill_53178_31_L (v : Int32) : ∀ (m i f : Nat) (h : zHp), i + m = 5 → m < f → s_J7_fill_53178_31_L5 f v (nI i) (nI 5) h = some (zfl h 31 i 5 v)
  | 0, i, f + 1, h, hi, hf => by
    obtain rfl : i = 5 := by omega
    rw [s_J7_fill_53178_31_L5, if_pos (nI_le (Nat.le_refl 5) (by omega)), zfl_end]
  | m + 1, i, f + 1, h, hi, hf => by
    rw [s_J7_fill_53178_31_L5, if_neg (nI_ge (a := i) (b := 5) (by omega) (by omega)), zbs (zui_ok (by omega) (by omega)), nI_1, f_J7_fill_53178_31_L v m (i + 1) f _ (by omega) (by omega), zfl_step _ _ _ _ _ (by omega)]
theorem f_J7_fill_53178_31 (v : Int32) (h : zHp) : s_J7_fill_53178_31 v h = some (zfl h 31 0 5 v) := f_J7_fill_53178_31_L v 5 0 zFU h rfl (by decide)

theorem f_J7_fill_53178_42_L (v : Int32) : ∀ (m i f : Nat) (h : zHp), i + m = 15 → m < f → s_J7_fill_53178_42_L5 f v (nI i) (nI 15) h = some (zfl h 42 i 15 v)
  | 0, i, f + 1, h, hi, hf => by
    obtain rfl : i = 15 := by omega
    rw [s_J7_fill_53178_42_L5, if_pos (nI_le (Nat.le_refl 15) (by omega)), zfl_end]
  | m + 1, i, f + 1, h, hi, hf => by
    rw [s_J7_fill_53178_42_L5, if_neg (nI_ge (a := i) (b := 15) (by omega) (by omega)), zbs (zui_ok (by omega) (by omega)), nI_1, f_J7_fill_53178_42_L v m (i + 1) f _ (by omega) (by omega), zfl_step _ _ _ _ _ (by omega)]
theorem f_J7_fill_53178_42 (v : Int32) (h : zHp) : s_J7_fill_53178_42 v h = some (zfl h 42 0 15 v) := f_J7_fill_53178_42_L v 15 0 zFU h rfl (by decide)

theorem f_J7_fill_d0a16_48_L (v : Int64) : ∀ (m i f : Nat) (h : zHp), i + m = 25 → m < f → s_J7_fill_d0a16_48_L6 f v (nI i) (nI 25) h = some (zflL h 48 i 25 v)
  | 0, i, f + 1, h, hi, hf => by
    obtain rfl : i = 25 := by omega
    rw [s_J7_fill_d0a16_48_L6, if_pos (nI_le (Nat.le_refl 25) (by omega)), zflL_end]
  | m + 1, i, f + 1, h, hi, hf => by
    rw [s_J7_fill_d0a16_48_L6, if_neg (nI_ge (a := i) (b := 25) (by omega) (by omega)), zbs (zuj_ok (by omega) (by omega)), nI_1, f_J7_fill_d0a16_48_L v m (i + 1) f _ (by omega) (by omega), zflL_step _ _ _ _ _ (by omega)]
theorem f_J7_fill_d0a16_48 (v : Int64) (h : zHp) : s_J7_fill_d0a16_48 v h = some (zflL h 48 0 25 v) := f_J7_fill_d0a16_48_L v 25 0 zFU h rfl (by decide)

theorem f_J7_fill_d0a16_49_L (v : Int64) : ∀ (m i f : Nat) (h : zHp), i + m = 5 → m < f → s_J7_fill_d0a16_49_L6 f v (nI i) (nI 5) h = some (zflL h 49 i 5 v)
  | 0, i, f + 1, h, hi, hf => by
    obtain rfl : i = 5 := by omega
    rw [s_J7_fill_d0a16_49_L6, if_pos (nI_le (Nat.le_refl 5) (by omega)), zflL_end]
  | m + 1, i, f + 1, h, hi, hf => by
    rw [s_J7_fill_d0a16_49_L6, if_neg (nI_ge (a := i) (b := 5) (by omega) (by omega)), zbs (zuj_ok (by omega) (by omega)), nI_1, f_J7_fill_d0a16_49_L v m (i + 1) f _ (by omega) (by omega), zflL_step _ _ _ _ _ (by omega)]
theorem f_J7_fill_d0a16_49 (v : Int64) (h : zHp) : s_J7_fill_d0a16_49 v h = some (zflL h 49 0 5 v) := f_J7_fill_d0a16_49_L v 5 0 zFU h rfl (by decide)

theorem f_J7_fill_53178_50_L (v : Int32) : ∀ (m i f : Nat) (h : zHp), i + m = 5 → m < f → s_J7_fill_53178_50_L5 f v (nI i) (nI 5) h = some (zfl h 50 i 5 v)
  | 0, i, f + 1, h, hi, hf => by
    obtain rfl : i = 5 := by omega
    rw [s_J7_fill_53178_50_L5, if_pos (nI_le (Nat.le_refl 5) (by omega)), zfl_end]
  | m + 1, i, f + 1, h, hi, hf => by
    rw [s_J7_fill_53178_50_L5, if_neg (nI_ge (a := i) (b := 5) (by omega) (by omega)), zbs (zui_ok (by omega) (by omega)), nI_1, f_J7_fill_53178_50_L v m (i + 1) f _ (by omega) (by omega), zfl_step _ _ _ _ _ (by omega)]
theorem f_J7_fill_53178_50 (v : Int32) (h : zHp) : s_J7_fill_53178_50 v h = some (zfl h 50 0 5 v) := f_J7_fill_53178_50_L v 5 0 zFU h rfl (by decide)

theorem f_J7_fill_53178_10_L (v : Int32) : ∀ (m i f : Nat) (h : zHp), i + m = 40 → m < f → s_J7_fill_53178_10_L5 f v (nI i) (nI 40) h = some (zfl h 10 i 40 v)
  | 0, i, f + 1, h, hi, hf => by
    obtain rfl : i = 40 := by omega
    rw [s_J7_fill_53178_10_L5, if_pos (nI_le (Nat.le_refl 40) (by omega)), zfl_end]
  | m + 1, i, f + 1, h, hi, hf => by
    rw [s_J7_fill_53178_10_L5, if_neg (nI_ge (a := i) (b := 40) (by omega) (by omega)), zbs (zui_ok (by omega) (by omega)), nI_1, f_J7_fill_53178_10_L v m (i + 1) f _ (by omega) (by omega), zfl_step _ _ _ _ _ (by omega)]
theorem f_J7_fill_53178_10 (v : Int32) (h : zHp) : s_J7_fill_53178_10 v h = some (zfl h 10 0 40 v) := f_J7_fill_53178_10_L v 40 0 zFU h rfl (by decide)

theorem f_J7_fill_53178_12_L (v : Int32) : ∀ (m i f : Nat) (h : zHp), i + m = 5 → m < f → s_J7_fill_53178_12_L5 f v (nI i) (nI 5) h = some (zfl h 12 i 5 v)
  | 0, i, f + 1, h, hi, hf => by
    obtain rfl : i = 5 := by omega
    rw [s_J7_fill_53178_12_L5, if_pos (nI_le (Nat.le_refl 5) (by omega)), zfl_end]
  | m + 1, i, f + 1, h, hi, hf => by
    rw [s_J7_fill_53178_12_L5, if_neg (nI_ge (a := i) (b := 5) (by omega) (by omega)), zbs (zui_ok (by omega) (by omega)), nI_1, f_J7_fill_53178_12_L v m (i + 1) f _ (by omega) (by omega), zfl_step _ _ _ _ _ (by omega)]
theorem f_J7_fill_53178_12 (v : Int32) (h : zHp) : s_J7_fill_53178_12 v h = some (zfl h 12 0 5 v) := f_J7_fill_53178_12_L v 5 0 zFU h rfl (by decide)

theorem f_J7_fill_53178_29_L (v : Int32) : ∀ (m i f : Nat) (h : zHp), i + m = 80 → m < f → s_J7_fill_53178_29_L5 f v (nI i) (nI 80) h = some (zfl h 29 i 80 v)
  | 0, i, f + 1, h, hi, hf => by
    obtain rfl : i = 80 := by omega
    rw [s_J7_fill_53178_29_L5, if_pos (nI_le (Nat.le_refl 80) (by omega)), zfl_end]
  | m + 1, i, f + 1, h, hi, hf => by
    rw [s_J7_fill_53178_29_L5, if_neg (nI_ge (a := i) (b := 80) (by omega) (by omega)), zbs (zui_ok (by omega) (by omega)), nI_1, f_J7_fill_53178_29_L v m (i + 1) f _ (by omega) (by omega), zfl_step _ _ _ _ _ (by omega)]
theorem f_J7_fill_53178_29 (v : Int32) (h : zHp) : s_J7_fill_53178_29 v h = some (zfl h 29 0 80 v) := f_J7_fill_53178_29_L v 80 0 zFU h rfl (by decide)

theorem f_J7_fill_53178_60_L (v : Int32) : ∀ (m i f : Nat) (h : zHp), i + m = 6 → m < f → s_J7_fill_53178_60_L5 f v (nI i) (nI 6) h = some (zfl h 60 i 6 v)
  | 0, i, f + 1, h, hi, hf => by
    obtain rfl : i = 6 := by omega
    rw [s_J7_fill_53178_60_L5, if_pos (nI_le (Nat.le_refl 6) (by omega)), zfl_end]
  | m + 1, i, f + 1, h, hi, hf => by
    rw [s_J7_fill_53178_60_L5, if_neg (nI_ge (a := i) (b := 6) (by omega) (by omega)), zbs (zui_ok (by omega) (by omega)), nI_1, f_J7_fill_53178_60_L v m (i + 1) f _ (by omega) (by omega), zfl_step _ _ _ _ _ (by omega)]
theorem f_J7_fill_53178_60 (v : Int32) (h : zHp) : s_J7_fill_53178_60 v h = some (zfl h 60 0 6 v) := f_J7_fill_53178_60_L v 6 0 zFU h rfl (by decide)

theorem f_J7_fill_53178_3_L (v : Int32) : ∀ (m i f : Nat) (h : zHp), i + m = 4 → m < f → s_J7_fill_53178_3_L5 f v (nI i) (nI 4) h = some (zfl h 3 i 4 v)
  | 0, i, f + 1, h, hi, hf => by
    obtain rfl : i = 4 := by omega
    rw [s_J7_fill_53178_3_L5, if_pos (nI_le (Nat.le_refl 4) (by omega)), zfl_end]
  | m + 1, i, f + 1, h, hi, hf => by
    rw [s_J7_fill_53178_3_L5, if_neg (nI_ge (a := i) (b := 4) (by omega) (by omega)), zbs (zui_ok (by omega) (by omega)), nI_1, f_J7_fill_53178_3_L v m (i + 1) f _ (by omega) (by omega), zfl_step _ _ _ _ _ (by omega)]
theorem f_J7_fill_53178_3 (v : Int32) (h : zHp) : s_J7_fill_53178_3 v h = some (zfl h 3 0 4 v) := f_J7_fill_53178_3_L v 4 0 zFU h rfl (by decide)


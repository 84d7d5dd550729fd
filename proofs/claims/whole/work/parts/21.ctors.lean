def zh0 : zHp := (fun _ _ => 0, fun _ _ => 0)
def zh1 : zHp := zwi zh0 6 6 (0 : Int32)
def zh2 : zHp := zfl zh1 10 0 40 (-1 : Int32)
def zh3 : zHp := zfl zh2 12 0 5 (60 : Int32)
def zh4 : zHp := zwi zh3 13 10 (0 : Int32)
def zh5 : zHp := zwi zh4 24 8 (0 : Int32)
def zh6 : zHp := zwi zh5 24 9 (0 : Int32)
def zh7 : zHp := zfl zh6 29 0 80 (1501 : Int32)
def zh8 : zHp := zwi zh7 32 2 (0 : Int32)
def zh9 : zHp := zwi zh8 35 10 (0 : Int32)
def zh10 : zHp := zwi zh9 35 11 (1 : Int32)
def zh11 : zHp := zwl zh10 51 0 (0 : Int64)
def zh12 : zHp := zwl zh11 51 1 (1 : Int64)
def zh13 : zHp := zwl zh12 58 0 (0 : Int64)
def zh14 : zHp := zwl zh13 58 1 (1 : Int64)
def zh15 : zHp := zwi zh14 52 7 (0 : Int32)
def zh16 : zHp := zwl zh15 65 0 (0 : Int64)
def zh17 : zHp := zwl zh16 65 1 (1 : Int64)
def zh18 : zHp := zfl zh17 60 0 6 (12 : Int32)
def zh19 : zHp := zwl zh18 66 0 (0 : Int64)
def zh20 : zHp := zwl zh19 66 1 (1 : Int64)
def zh21 : zHp := zwi zh20 0 14 (0 : Int32)
def zh22 : zHp := zwi zh21 0 15 (2 : Int32)
def zh23 : zHp := zfl zh22 3 0 4 (10 : Int32)
def zh24 : zHp := zwi zh23 73 0 (60 : Int32)
def zh25 : zHp := zwi zh24 73 1 (60 : Int32)
def zh26 : zHp := zwi zh25 73 2 (60 : Int32)
def zh27 : zHp := zwi zh26 73 3 (60 : Int32)
def zh28 : zHp := zwi zh27 73 4 (60 : Int32)
def zh29 : zHp := zwi zh28 92 0 (10 : Int32)
def zh30 : zHp := zwi zh29 92 1 (10 : Int32)
def zh31 : zHp := zwi zh30 92 2 (10 : Int32)
def zh32 : zHp := zwi zh31 92 3 (10 : Int32)
def zh33 : zHp := zwi zh32 67 30 (2 : Int32)
def zh34 : zHp := zwi zh33 113 0 (12 : Int32)
def zh35 : zHp := zwi zh34 113 1 (12 : Int32)
def zh36 : zHp := zwi zh35 113 2 (12 : Int32)
def zh37 : zHp := zwi zh36 113 3 (12 : Int32)
def zh38 : zHp := zwi zh37 113 4 (12 : Int32)
def zh39 : zHp := zwi zh38 113 5 (12 : Int32)
theorem zty_0 : ∀ j, j < 7 → zfty 0 j = .int ∨ zfty 0 j = .long ∨ (∃ t, zfty 0 j = .array t) ∨ ∃ n, zfty 0 j = .object n := by
  intro j hj
  match j, hj with
  | 0, _ => exact Or.inr (Or.inr (Or.inl ⟨_, rfl⟩))
  | 1, _ => exact Or.inr (Or.inr (Or.inl ⟨_, rfl⟩))
  | 2, _ => exact Or.inr (Or.inr (Or.inl ⟨_, rfl⟩))
  | 3, _ => exact Or.inr (Or.inr (Or.inl ⟨_, rfl⟩))
  | 4, _ => exact Or.inr (Or.inr (Or.inl ⟨_, rfl⟩))
  | 5, _ => exact Or.inr (Or.inr (Or.inl ⟨_, rfl⟩))
  | 6, _ => exact Or.inl rfl
  | n + 7, hj => omega
theorem zty_1 : ∀ j, j < 8 → zfty 1 j = .int ∨ zfty 1 j = .long ∨ (∃ t, zfty 1 j = .array t) ∨ ∃ n, zfty 1 j = .object n := by
  intro j hj
  match j, hj with
  | 0, _ => exact Or.inr (Or.inr (Or.inr ⟨_, rfl⟩))
  | 1, _ => exact Or.inr (Or.inr (Or.inl ⟨_, rfl⟩))
  | 2, _ => exact Or.inr (Or.inr (Or.inl ⟨_, rfl⟩))
  | 3, _ => exact Or.inr (Or.inr (Or.inl ⟨_, rfl⟩))
  | 4, _ => exact Or.inr (Or.inr (Or.inl ⟨_, rfl⟩))
  | 5, _ => exact Or.inr (Or.inr (Or.inl ⟨_, rfl⟩))
  | 6, _ => exact Or.inr (Or.inr (Or.inr ⟨_, rfl⟩))
  | 7, _ => exact Or.inl rfl
  | n + 8, hj => omega
theorem zty_2 : ∀ j, j < 2 → zfty 2 j = .int ∨ zfty 2 j = .long ∨ (∃ t, zfty 2 j = .array t) ∨ ∃ n, zfty 2 j = .object n := by
  intro j hj
  match j, hj with
  | 0, _ => exact Or.inr (Or.inl rfl)
  | 1, _ => exact Or.inr (Or.inl rfl)
  | n + 2, hj => omega
theorem zty_3 : ∀ j, j < 6 → zfty 3 j = .int ∨ zfty 3 j = .long ∨ (∃ t, zfty 3 j = .array t) ∨ ∃ n, zfty 3 j = .object n := by
  intro j hj
  match j, hj with
  | 0, _ => exact Or.inr (Or.inr (Or.inr ⟨_, rfl⟩))
  | 1, _ => exact Or.inr (Or.inr (Or.inl ⟨_, rfl⟩))
  | 2, _ => exact Or.inr (Or.inr (Or.inl ⟨_, rfl⟩))
  | 3, _ => exact Or.inr (Or.inr (Or.inl ⟨_, rfl⟩))
  | 4, _ => exact Or.inr (Or.inr (Or.inl ⟨_, rfl⟩))
  | 5, _ => exact Or.inr (Or.inr (Or.inr ⟨_, rfl⟩))
  | n + 6, hj => omega
theorem zty_4 : ∀ j, j < 11 → zfty 4 j = .int ∨ zfty 4 j = .long ∨ (∃ t, zfty 4 j = .array t) ∨ ∃ n, zfty 4 j = .object n := by
  intro j hj
  match j, hj with
  | 0, _ => exact Or.inr (Or.inr (Or.inl ⟨_, rfl⟩))
  | 1, _ => exact Or.inr (Or.inr (Or.inl ⟨_, rfl⟩))
  | 2, _ => exact Or.inr (Or.inr (Or.inl ⟨_, rfl⟩))
  | 3, _ => exact Or.inr (Or.inr (Or.inl ⟨_, rfl⟩))
  | 4, _ => exact Or.inr (Or.inr (Or.inl ⟨_, rfl⟩))
  | 5, _ => exact Or.inr (Or.inr (Or.inl ⟨_, rfl⟩))
  | 6, _ => exact Or.inr (Or.inr (Or.inl ⟨_, rfl⟩))
  | 7, _ => exact Or.inr (Or.inr (Or.inl ⟨_, rfl⟩))
  | 8, _ => exact Or.inr (Or.inr (Or.inl ⟨_, rfl⟩))
  | 9, _ => exact Or.inr (Or.inr (Or.inl ⟨_, rfl⟩))
  | 10, _ => exact Or.inl rfl
  | n + 11, hj => omega
theorem zty_5 : ∀ j, j < 10 → zfty 5 j = .int ∨ zfty 5 j = .long ∨ (∃ t, zfty 5 j = .array t) ∨ ∃ n, zfty 5 j = .object n := by
  intro j hj
  match j, hj with
  | 0, _ => exact Or.inr (Or.inr (Or.inr ⟨_, rfl⟩))
  | 1, _ => exact Or.inr (Or.inr (Or.inl ⟨_, rfl⟩))
  | 2, _ => exact Or.inr (Or.inr (Or.inl ⟨_, rfl⟩))
  | 3, _ => exact Or.inr (Or.inr (Or.inl ⟨_, rfl⟩))
  | 4, _ => exact Or.inr (Or.inr (Or.inl ⟨_, rfl⟩))
  | 5, _ => exact Or.inr (Or.inr (Or.inl ⟨_, rfl⟩))
  | 6, _ => exact Or.inr (Or.inr (Or.inl ⟨_, rfl⟩))
  | 7, _ => exact Or.inr (Or.inr (Or.inl ⟨_, rfl⟩))
  | 8, _ => exact Or.inl rfl
  | 9, _ => exact Or.inl rfl
  | n + 10, hj => omega
theorem zty_6 : ∀ j, j < 3 → zfty 6 j = .int ∨ zfty 6 j = .long ∨ (∃ t, zfty 6 j = .array t) ∨ ∃ n, zfty 6 j = .object n := by
  intro j hj
  match j, hj with
  | 0, _ => exact Or.inr (Or.inr (Or.inl ⟨_, rfl⟩))
  | 1, _ => exact Or.inr (Or.inr (Or.inl ⟨_, rfl⟩))
  | 2, _ => exact Or.inl rfl
  | n + 3, hj => omega
theorem zty_7 : ∀ j, j < 6 → zfty 7 j = .int ∨ zfty 7 j = .long ∨ (∃ t, zfty 7 j = .array t) ∨ ∃ n, zfty 7 j = .object n := by
  intro j hj
  match j, hj with
  | 0, _ => exact Or.inr (Or.inr (Or.inl ⟨_, rfl⟩))
  | 1, _ => exact Or.inr (Or.inr (Or.inl ⟨_, rfl⟩))
  | 2, _ => exact Or.inr (Or.inr (Or.inl ⟨_, rfl⟩))
  | 3, _ => exact Or.inr (Or.inr (Or.inl ⟨_, rfl⟩))
  | 4, _ => exact Or.inr (Or.inr (Or.inl ⟨_, rfl⟩))
  | 5, _ => exact Or.inr (Or.inr (Or.inr ⟨_, rfl⟩))
  | n + 6, hj => omega
theorem zty_8 : ∀ j, j < 12 → zfty 8 j = .int ∨ zfty 8 j = .long ∨ (∃ t, zfty 8 j = .array t) ∨ ∃ n, zfty 8 j = .object n := by
  intro j hj
  match j, hj with
  | 0, _ => exact Or.inr (Or.inr (Or.inl ⟨_, rfl⟩))
  | 1, _ => exact Or.inr (Or.inr (Or.inl ⟨_, rfl⟩))
  | 2, _ => exact Or.inr (Or.inr (Or.inl ⟨_, rfl⟩))
  | 3, _ => exact Or.inr (Or.inr (Or.inl ⟨_, rfl⟩))
  | 4, _ => exact Or.inr (Or.inr (Or.inl ⟨_, rfl⟩))
  | 5, _ => exact Or.inr (Or.inr (Or.inl ⟨_, rfl⟩))
  | 6, _ => exact Or.inr (Or.inr (Or.inl ⟨_, rfl⟩))
  | 7, _ => exact Or.inr (Or.inr (Or.inl ⟨_, rfl⟩))
  | 8, _ => exact Or.inr (Or.inr (Or.inl ⟨_, rfl⟩))
  | 9, _ => exact Or.inr (Or.inr (Or.inl ⟨_, rfl⟩))
  | 10, _ => exact Or.inl rfl
  | 11, _ => exact Or.inl rfl
  | n + 12, hj => omega
theorem zty_9 : ∀ j, j < 16 → zfty 9 j = .int ∨ zfty 9 j = .long ∨ (∃ t, zfty 9 j = .array t) ∨ ∃ n, zfty 9 j = .object n := by
  intro j hj
  match j, hj with
  | 0, _ => exact Or.inr (Or.inr (Or.inl ⟨_, rfl⟩))
  | 1, _ => exact Or.inr (Or.inr (Or.inl ⟨_, rfl⟩))
  | 2, _ => exact Or.inr (Or.inr (Or.inl ⟨_, rfl⟩))
  | 3, _ => exact Or.inr (Or.inr (Or.inl ⟨_, rfl⟩))
  | 4, _ => exact Or.inr (Or.inr (Or.inl ⟨_, rfl⟩))
  | 5, _ => exact Or.inr (Or.inr (Or.inr ⟨_, rfl⟩))
  | 6, _ => exact Or.inr (Or.inr (Or.inr ⟨_, rfl⟩))
  | 7, _ => exact Or.inr (Or.inr (Or.inr ⟨_, rfl⟩))
  | 8, _ => exact Or.inr (Or.inr (Or.inr ⟨_, rfl⟩))
  | 9, _ => exact Or.inr (Or.inr (Or.inr ⟨_, rfl⟩))
  | 10, _ => exact Or.inr (Or.inr (Or.inr ⟨_, rfl⟩))
  | 11, _ => exact Or.inr (Or.inr (Or.inr ⟨_, rfl⟩))
  | 12, _ => exact Or.inr (Or.inr (Or.inr ⟨_, rfl⟩))
  | 13, _ => exact Or.inr (Or.inr (Or.inr ⟨_, rfl⟩))
  | 14, _ => exact Or.inl rfl
  | 15, _ => exact Or.inl rfl
  | n + 16, hj => omega
theorem zty_10 : ∀ j, j < 62 → zfty 10 j = .int ∨ zfty 10 j = .long ∨ (∃ t, zfty 10 j = .array t) ∨ ∃ n, zfty 10 j = .object n := by
  intro j hj
  match j, hj with
  | 0, _ => exact Or.inl rfl
  | 1, _ => exact Or.inl rfl
  | 2, _ => exact Or.inr (Or.inr (Or.inl ⟨_, rfl⟩))
  | 3, _ => exact Or.inr (Or.inr (Or.inl ⟨_, rfl⟩))
  | 4, _ => exact Or.inr (Or.inr (Or.inl ⟨_, rfl⟩))
  | 5, _ => exact Or.inr (Or.inr (Or.inl ⟨_, rfl⟩))
  | 6, _ => exact Or.inr (Or.inr (Or.inl ⟨_, rfl⟩))
  | 7, _ => exact Or.inr (Or.inr (Or.inl ⟨_, rfl⟩))
  | 8, _ => exact Or.inl rfl
  | 9, _ => exact Or.inr (Or.inr (Or.inl ⟨_, rfl⟩))
  | 10, _ => exact Or.inr (Or.inr (Or.inl ⟨_, rfl⟩))
  | 11, _ => exact Or.inr (Or.inr (Or.inl ⟨_, rfl⟩))
  | 12, _ => exact Or.inr (Or.inr (Or.inl ⟨_, rfl⟩))
  | 13, _ => exact Or.inr (Or.inr (Or.inl ⟨_, rfl⟩))
  | 14, _ => exact Or.inr (Or.inr (Or.inl ⟨_, rfl⟩))
  | 15, _ => exact Or.inr (Or.inr (Or.inl ⟨_, rfl⟩))
  | 16, _ => exact Or.inr (Or.inr (Or.inl ⟨_, rfl⟩))
  | 17, _ => exact Or.inl rfl
  | 18, _ => exact Or.inr (Or.inr (Or.inl ⟨_, rfl⟩))
  | 19, _ => exact Or.inr (Or.inr (Or.inl ⟨_, rfl⟩))
  | 20, _ => exact Or.inr (Or.inr (Or.inl ⟨_, rfl⟩))
  | 21, _ => exact Or.inr (Or.inr (Or.inl ⟨_, rfl⟩))
  | 22, _ => exact Or.inr (Or.inr (Or.inl ⟨_, rfl⟩))
  | 23, _ => exact Or.inr (Or.inr (Or.inl ⟨_, rfl⟩))
  | 24, _ => exact Or.inr (Or.inr (Or.inl ⟨_, rfl⟩))
  | 25, _ => exact Or.inr (Or.inr (Or.inl ⟨_, rfl⟩))
  | 26, _ => exact Or.inl rfl
  | 27, _ => exact Or.inr (Or.inr (Or.inl ⟨_, rfl⟩))
  | 28, _ => exact Or.inr (Or.inr (Or.inl ⟨_, rfl⟩))
  | 29, _ => exact Or.inr (Or.inr (Or.inl ⟨_, rfl⟩))
  | 30, _ => exact Or.inl rfl
  | 31, _ => exact Or.inr (Or.inr (Or.inl ⟨_, rfl⟩))
  | 32, _ => exact Or.inl rfl
  | 33, _ => exact Or.inr (Or.inr (Or.inl ⟨_, rfl⟩))
  | 34, _ => exact Or.inr (Or.inr (Or.inl ⟨_, rfl⟩))
  | 35, _ => exact Or.inr (Or.inr (Or.inl ⟨_, rfl⟩))
  | 36, _ => exact Or.inr (Or.inr (Or.inl ⟨_, rfl⟩))
  | 37, _ => exact Or.inr (Or.inr (Or.inl ⟨_, rfl⟩))
  | 38, _ => exact Or.inr (Or.inr (Or.inl ⟨_, rfl⟩))
  | 39, _ => exact Or.inr (Or.inr (Or.inl ⟨_, rfl⟩))
  | 40, _ => exact Or.inr (Or.inr (Or.inl ⟨_, rfl⟩))
  | 41, _ => exact Or.inr (Or.inr (Or.inl ⟨_, rfl⟩))
  | 42, _ => exact Or.inr (Or.inr (Or.inl ⟨_, rfl⟩))
  | 43, _ => exact Or.inl rfl
  | 44, _ => exact Or.inr (Or.inr (Or.inl ⟨_, rfl⟩))
  | 45, _ => exact Or.inr (Or.inl rfl)
  | 46, _ => exact Or.inr (Or.inl rfl)
  | 47, _ => exact Or.inr (Or.inr (Or.inl ⟨_, rfl⟩))
  | 48, _ => exact Or.inr (Or.inr (Or.inl ⟨_, rfl⟩))
  | 49, _ => exact Or.inr (Or.inr (Or.inl ⟨_, rfl⟩))
  | 50, _ => exact Or.inr (Or.inr (Or.inl ⟨_, rfl⟩))
  | 51, _ => exact Or.inl rfl
  | 52, _ => exact Or.inr (Or.inr (Or.inl ⟨_, rfl⟩))
  | 53, _ => exact Or.inr (Or.inr (Or.inl ⟨_, rfl⟩))
  | 54, _ => exact Or.inr (Or.inr (Or.inl ⟨_, rfl⟩))
  | 55, _ => exact Or.inr (Or.inr (Or.inl ⟨_, rfl⟩))
  | 56, _ => exact Or.inr (Or.inr (Or.inl ⟨_, rfl⟩))
  | 57, _ => exact Or.inr (Or.inr (Or.inl ⟨_, rfl⟩))
  | 58, _ => exact Or.inr (Or.inr (Or.inl ⟨_, rfl⟩))
  | 59, _ => exact Or.inr (Or.inl rfl)
  | 60, _ => exact Or.inr (Or.inl rfl)
  | 61, _ => exact Or.inr (Or.inr (Or.inl ⟨_, rfl⟩))
  | n + 62, hj => omega
theorem zini_X0_init : (yX0_init.name == "<init>") = true := by decide +kernel
theorem zini_X4_init : (yX4_init.name == "<init>") = true := by decide +kernel
theorem zini_X5_init : (yX5_init.name == "<init>") = true := by decide +kernel
theorem zini_X6_init : (yX6_init.name == "<init>") = true := by decide +kernel
theorem zini_X8_init : (yX8_init.name == "<init>") = true := by decide +kernel
theorem zini_X2_init : (yX2_init.name == "<init>") = true := by decide +kernel
theorem zini_X3_init : (yX3_init.name == "<init>") = true := by decide +kernel
theorem zini_X1_init : (yX1_init.name == "<init>") = true := by decide +kernel
theorem zini_X7_init : (yX7_init.name == "<init>") = true := by decide +kernel
theorem zini_X9_init : (yX9_init.name == "<init>") = true := by decide +kernel
theorem zini_X10_init : (yX10_init.name == "<init>") = true := by decide +kernel
set_option maxRecDepth 100000 in
set_option maxHeartbeats 4000000 in
theorem kc_X0_init_6 {l : Launch} {D : va_G} {cy : Nat → ClassId} {S0 d : Nat} (hd : 1 ≤ d) : zCT l D cy S0 d yX0_init cX0_init 1 none [.ref 6] 7 zrf5 zh0 none 13 zrf11 zh3 := by
  refine zCT_of RX0 rfl zm_X0_init (by decide) (Nat.le_of_ble_eq_true rfl) (fun J X => ?_)
  show J 0 [(0, .ref 6)] [] 7 zrf5 zh0
  refine zv_aload_n X dX0_init_0 rfl rfl ?_
  refine zv_objInit X (by omega) zo_RX0_3 zo_1 zo_2 (Nat.le_of_ble_eq_true rfl) dX0_init_1 ?_
  refine zv_aload_n X dX0_init_4 rfl rfl ?_
  refine zv_bipush (v := (40 : Int32)) X dX0_init_5 zbp_40 ?_
  refine zv_newaI (n := 40) X zk_7 zl_7 rfl (by decide) (by decide) za_int rfl dX0_init_7 ?_
  show J 9 [(0, .ref 6)] [.ref 7, .ref 6] 8 zrf5 zh0
  refine zv_putF X zini_X0_init zf_RX0_9 (Or.inl ⟨_, rfl⟩) zk_6 (by decide) dX0_init_9 ?_
  show J 12 [(0, .ref 6)] [] 8 zrf6 zh0
  refine zv_aload_n X dX0_init_12 rfl rfl ?_
  refine zv_bipush (v := (40 : Int32)) X dX0_init_13 zbp_40 ?_
  refine zv_newaI (n := 40) X zk_8 zl_8 rfl (by decide) (by decide) za_int rfl dX0_init_15 ?_
  show J 17 [(0, .ref 6)] [.ref 8, .ref 6] 9 zrf6 zh0
  refine zv_putF X zini_X0_init zf_RX0_15 (Or.inl ⟨_, rfl⟩) zk_6 (by decide) dX0_init_17 ?_
  show J 20 [(0, .ref 6)] [] 9 zrf7 zh0
  refine zv_aload_n X dX0_init_20 rfl rfl ?_
  refine zv_bipush (v := (40 : Int32)) X dX0_init_21 zbp_40 ?_
  refine zv_newaI (n := 40) X zk_9 zl_9 rfl (by decide) (by decide) za_int rfl dX0_init_23 ?_
  show J 25 [(0, .ref 6)] [.ref 9, .ref 6] 10 zrf7 zh0
  refine zv_putF X zini_X0_init zf_RX0_18 (Or.inl ⟨_, rfl⟩) zk_6 (by decide) dX0_init_25 ?_
  show J 28 [(0, .ref 6)] [] 10 zrf8 zh0
  refine zv_aload_n X dX0_init_28 rfl rfl ?_
  refine zv_bipush (v := (40 : Int32)) X dX0_init_29 zbp_40 ?_
  refine zv_newaI (n := 40) X zk_10 zl_10 rfl (by decide) (by decide) za_int rfl dX0_init_31 ?_
  show J 33 [(0, .ref 6)] [.ref 10, .ref 6] 11 zrf8 zh0
  refine zv_putF X zini_X0_init zf_RX0_21 (Or.inl ⟨_, rfl⟩) zk_6 (by decide) dX0_init_33 ?_
  show J 36 [(0, .ref 6)] [] 11 zrf9 zh0
  refine zv_aload_n X dX0_init_36 rfl rfl ?_
  refine zv_bipush (v := (40 : Int32)) X dX0_init_37 zbp_40 ?_
  refine zv_newaI (n := 40) X zk_11 zl_11 rfl (by decide) (by decide) za_int rfl dX0_init_39 ?_
  show J 41 [(0, .ref 6)] [.ref 11, .ref 6] 12 zrf9 zh0
  refine zv_putF X zini_X0_init zf_RX0_24 (Or.inl ⟨_, rfl⟩) zk_6 (by decide) dX0_init_41 ?_
  show J 44 [(0, .ref 6)] [] 12 zrf10 zh0
  refine zv_aload_n X dX0_init_44 rfl rfl ?_
  refine zv_iconst (v := (5 : Int32)) X dX0_init_45 zic_5 ?_
  refine zv_newaI (n := 5) X zk_12 zl_12 rfl (by decide) (by decide) za_int rfl dX0_init_46 ?_
  show J 48 [(0, .ref 6)] [.ref 12, .ref 6] 13 zrf10 zh0
  refine zv_putF X zini_X0_init zf_RX0_27 (Or.inl ⟨_, rfl⟩) zk_6 (by decide) dX0_init_48 ?_
  show J 51 [(0, .ref 6)] [] 13 zrf11 zh0
  refine zv_aload_n X dX0_init_51 rfl rfl ?_
  refine zv_iconst (v := (0 : Int32)) X dX0_init_52 zic_0 ?_
  refine zv_putI X zf_RX0_30 zk_6 (by decide) dX0_init_53 ?_
  show J 56 [(0, .ref 6)] [] 13 zrf11 zh1
  refine zv_aload_n X dX0_init_56 rfl rfl ?_
  refine zv_getR (a := 10) X zf_RX0_21 znt_a zk_6 (by decide) (by decide +kernel) dX0_init_57 ?_
  refine zv_iconst (v := (-1 : Int32)) X dX0_init_60 zic_m1 ?_
  refine zv_callS (stk := [.int (-1 : Int32), .ref 10]) (as := [.ref 10, .int (-1 : Int32)]) (st := []) X zl_RX0_34 zm_J7_fill_53178 (k_J7_fill_53178_10 (d := d - 1) (N := 13) (rf := zrf11) (by decide) (Nat.zero_le _) (f_J7_fill_53178_10 (-1 : Int32) zh1)) (by omega) rfl (Nat.le_of_ble_eq_true rfl) (by decide) rfl dX0_init_61 ?_
  show J 64 [(0, .ref 6)] [] 13 zrf11 zh2
  refine zv_aload_n X dX0_init_64 rfl rfl ?_
  refine zv_getR (a := 12) X zf_RX0_27 znt_a zk_6 (by decide) (by decide +kernel) dX0_init_65 ?_
  refine zv_bipush (v := (60 : Int32)) X dX0_init_68 zbp_60 ?_
  refine zv_callS (stk := [.int (60 : Int32), .ref 12]) (as := [.ref 12, .int (60 : Int32)]) (st := []) X zl_RX0_34 zm_J7_fill_53178 (k_J7_fill_53178_12 (d := d - 1) (N := 13) (rf := zrf11) (by decide) (Nat.zero_le _) (f_J7_fill_53178_12 (60 : Int32) zh2)) (by omega) rfl (Nat.le_of_ble_eq_true rfl) (by decide) rfl dX0_init_70 ?_
  show J 73 [(0, .ref 6)] [] 13 zrf11 zh3
  exact zv_retV X rfl rfl dX0_init_73
set_option maxRecDepth 100000 in
set_option maxHeartbeats 4000000 in
theorem kc_X4_init_13 {l : Launch} {D : va_G} {cy : Nat → ClassId} {S0 d : Nat} (hd : 1 ≤ d) : zCT l D cy S0 d yX4_init cX4_init 1 none [.ref 13] 14 zrf12 zh3 none 24 zrf22 zh4 := by
  refine zCT_of RX4 rfl zm_X4_init (by decide) (Nat.le_of_ble_eq_true rfl) (fun J X => ?_)
  show J 0 [(0, .ref 13)] [] 14 zrf12 zh3
  refine zv_aload_n X dX4_init_0 rfl rfl ?_
  refine zv_objInit X (by omega) zo_RX4_3 zo_1 zo_2 (Nat.le_of_ble_eq_true rfl) dX4_init_1 ?_
  refine zv_aload_n X dX4_init_4 rfl rfl ?_
  refine zv_bipush (v := (20 : Int32)) X dX4_init_5 zbp_20 ?_
  refine zv_newaI (n := 20) X zk_14 zl_14 rfl (by decide) (by decide) za_int rfl dX4_init_7 ?_
  show J 9 [(0, .ref 13)] [.ref 14, .ref 13] 15 zrf12 zh3
  refine zv_putF X zini_X4_init zf_RX4_9 (Or.inl ⟨_, rfl⟩) zk_13 (by decide) dX4_init_9 ?_
  show J 12 [(0, .ref 13)] [] 15 zrf13 zh3
  refine zv_aload_n X dX4_init_12 rfl rfl ?_
  refine zv_bipush (v := (20 : Int32)) X dX4_init_13 zbp_20 ?_
  refine zv_newaI (n := 20) X zk_15 zl_15 rfl (by decide) (by decide) za_int rfl dX4_init_15 ?_
  show J 17 [(0, .ref 13)] [.ref 15, .ref 13] 16 zrf13 zh3
  refine zv_putF X zini_X4_init zf_RX4_15 (Or.inl ⟨_, rfl⟩) zk_13 (by decide) dX4_init_17 ?_
  show J 20 [(0, .ref 13)] [] 16 zrf14 zh3
  refine zv_aload_n X dX4_init_20 rfl rfl ?_
  refine zv_bipush (v := (20 : Int32)) X dX4_init_21 zbp_20 ?_
  refine zv_newaI (n := 20) X zk_16 zl_16 rfl (by decide) (by decide) za_int rfl dX4_init_23 ?_
  show J 25 [(0, .ref 13)] [.ref 16, .ref 13] 17 zrf14 zh3
  refine zv_putF X zini_X4_init zf_RX4_18 (Or.inl ⟨_, rfl⟩) zk_13 (by decide) dX4_init_25 ?_
  show J 28 [(0, .ref 13)] [] 17 zrf15 zh3
  refine zv_aload_n X dX4_init_28 rfl rfl ?_
  refine zv_bipush (v := (20 : Int32)) X dX4_init_29 zbp_20 ?_
  refine zv_newaI (n := 20) X zk_17 zl_17 rfl (by decide) (by decide) za_int rfl dX4_init_31 ?_
  show J 33 [(0, .ref 13)] [.ref 17, .ref 13] 18 zrf15 zh3
  refine zv_putF X zini_X4_init zf_RX4_21 (Or.inl ⟨_, rfl⟩) zk_13 (by decide) dX4_init_33 ?_
  show J 36 [(0, .ref 13)] [] 18 zrf16 zh3
  refine zv_aload_n X dX4_init_36 rfl rfl ?_
  refine zv_bipush (v := (20 : Int32)) X dX4_init_37 zbp_20 ?_
  refine zv_newaI (n := 20) X zk_18 zl_18 rfl (by decide) (by decide) za_int rfl dX4_init_39 ?_
  show J 41 [(0, .ref 13)] [.ref 18, .ref 13] 19 zrf16 zh3
  refine zv_putF X zini_X4_init zf_RX4_24 (Or.inl ⟨_, rfl⟩) zk_13 (by decide) dX4_init_41 ?_
  show J 44 [(0, .ref 13)] [] 19 zrf17 zh3
  refine zv_aload_n X dX4_init_44 rfl rfl ?_
  refine zv_bipush (v := (20 : Int32)) X dX4_init_45 zbp_20 ?_
  refine zv_newaI (n := 20) X zk_19 zl_19 rfl (by decide) (by decide) za_int rfl dX4_init_47 ?_
  show J 49 [(0, .ref 13)] [.ref 19, .ref 13] 20 zrf17 zh3
  refine zv_putF X zini_X4_init zf_RX4_27 (Or.inl ⟨_, rfl⟩) zk_13 (by decide) dX4_init_49 ?_
  show J 52 [(0, .ref 13)] [] 20 zrf18 zh3
  refine zv_aload_n X dX4_init_52 rfl rfl ?_
  refine zv_bipush (v := (20 : Int32)) X dX4_init_53 zbp_20 ?_
  refine zv_newaZ (n := 20) X zk_20 zl_20 rfl (by decide) (by decide) za_boolean rfl dX4_init_55 ?_
  show J 57 [(0, .ref 13)] [.ref 20, .ref 13] 21 zrf18 zh3
  refine zv_putF X zini_X4_init zf_RX4_30 (Or.inl ⟨_, rfl⟩) zk_13 (by decide) dX4_init_57 ?_
  show J 60 [(0, .ref 13)] [] 21 zrf19 zh3
  refine zv_aload_n X dX4_init_60 rfl rfl ?_
  refine zv_bipush (v := (20 : Int32)) X dX4_init_61 zbp_20 ?_
  refine zv_newaI (n := 20) X zk_21 zl_21 rfl (by decide) (by decide) za_int rfl dX4_init_63 ?_
  show J 65 [(0, .ref 13)] [.ref 21, .ref 13] 22 zrf19 zh3
  refine zv_putF X zini_X4_init zf_RX4_34 (Or.inl ⟨_, rfl⟩) zk_13 (by decide) dX4_init_65 ?_
  show J 68 [(0, .ref 13)] [] 22 zrf20 zh3
  refine zv_aload_n X dX4_init_68 rfl rfl ?_
  refine zv_sipush (v := (160 : Int32)) X dX4_init_69 zsp_160 ?_
  refine zv_newaI (n := 160) X zk_22 zl_22 rfl (by decide) (by decide) za_int rfl dX4_init_72 ?_
  show J 74 [(0, .ref 13)] [.ref 22, .ref 13] 23 zrf20 zh3
  refine zv_putF X zini_X4_init zf_RX4_37 (Or.inl ⟨_, rfl⟩) zk_13 (by decide) dX4_init_74 ?_
  show J 77 [(0, .ref 13)] [] 23 zrf21 zh3
  refine zv_aload_n X dX4_init_77 rfl rfl ?_
  refine zv_sipush (v := (160 : Int32)) X dX4_init_78 zsp_160 ?_
  refine zv_newaI (n := 160) X zk_23 zl_23 rfl (by decide) (by decide) za_int rfl dX4_init_81 ?_
  show J 83 [(0, .ref 13)] [.ref 23, .ref 13] 24 zrf21 zh3
  refine zv_putF X zini_X4_init zf_RX4_40 (Or.inl ⟨_, rfl⟩) zk_13 (by decide) dX4_init_83 ?_
  show J 86 [(0, .ref 13)] [] 24 zrf22 zh3
  refine zv_aload_n X dX4_init_86 rfl rfl ?_
  refine zv_iconst (v := (0 : Int32)) X dX4_init_87 zic_0 ?_
  refine zv_putI X zf_RX4_43 zk_13 (by decide) dX4_init_88 ?_
  show J 91 [(0, .ref 13)] [] 24 zrf22 zh4
  exact zv_retV X rfl rfl dX4_init_91
set_option maxRecDepth 100000 in
set_option maxHeartbeats 4000000 in
theorem kc_X5_init_24 {l : Launch} {D : va_G} {cy : Nat → ClassId} {S0 d : Nat} (hd : 1 ≤ d) : zCT l D cy S0 d yX5_init cX5_init 2 none [.ref 24, .ref 6] 25 zrf23 zh4 none 32 zrf31 zh7 := by
  refine zCT_of RX5 rfl zm_X5_init (by decide) (Nat.le_of_ble_eq_true rfl) (fun J X => ?_)
  show J 0 [(0, .ref 24), (1, .ref 6)] [] 25 zrf23 zh4
  refine zv_aload_n X dX5_init_0 rfl rfl ?_
  refine zv_objInit X (by omega) zo_RX5_3 zo_1 zo_2 (Nat.le_of_ble_eq_true rfl) dX5_init_1 ?_
  refine zv_aload_n X dX5_init_4 rfl rfl ?_
  refine zv_bipush (v := (80 : Int32)) X dX5_init_5 zbp_80 ?_
  refine zv_newaI (n := 80) X zk_25 zl_25 rfl (by decide) (by decide) za_int rfl dX5_init_7 ?_
  show J 9 [(0, .ref 24), (1, .ref 6)] [.ref 25, .ref 24] 26 zrf23 zh4
  refine zv_putF X zini_X5_init zf_RX5_9 (Or.inl ⟨_, rfl⟩) zk_24 (by decide) dX5_init_9 ?_
  show J 12 [(0, .ref 24), (1, .ref 6)] [] 26 zrf24 zh4
  refine zv_aload_n X dX5_init_12 rfl rfl ?_
  refine zv_bipush (v := (80 : Int32)) X dX5_init_13 zbp_80 ?_
  refine zv_newaI (n := 80) X zk_26 zl_26 rfl (by decide) (by decide) za_int rfl dX5_init_15 ?_
  show J 17 [(0, .ref 24), (1, .ref 6)] [.ref 26, .ref 24] 27 zrf24 zh4
  refine zv_putF X zini_X5_init zf_RX5_15 (Or.inl ⟨_, rfl⟩) zk_24 (by decide) dX5_init_17 ?_
  show J 20 [(0, .ref 24), (1, .ref 6)] [] 27 zrf25 zh4
  refine zv_aload_n X dX5_init_20 rfl rfl ?_
  refine zv_bipush (v := (80 : Int32)) X dX5_init_21 zbp_80 ?_
  refine zv_newaI (n := 80) X zk_27 zl_27 rfl (by decide) (by decide) za_int rfl dX5_init_23 ?_
  show J 25 [(0, .ref 24), (1, .ref 6)] [.ref 27, .ref 24] 28 zrf25 zh4
  refine zv_putF X zini_X5_init zf_RX5_18 (Or.inl ⟨_, rfl⟩) zk_24 (by decide) dX5_init_25 ?_
  show J 28 [(0, .ref 24), (1, .ref 6)] [] 28 zrf26 zh4
  refine zv_aload_n X dX5_init_28 rfl rfl ?_
  refine zv_bipush (v := (80 : Int32)) X dX5_init_29 zbp_80 ?_
  refine zv_newaI (n := 80) X zk_28 zl_28 rfl (by decide) (by decide) za_int rfl dX5_init_31 ?_
  show J 33 [(0, .ref 24), (1, .ref 6)] [.ref 28, .ref 24] 29 zrf26 zh4
  refine zv_putF X zini_X5_init zf_RX5_21 (Or.inl ⟨_, rfl⟩) zk_24 (by decide) dX5_init_33 ?_
  show J 36 [(0, .ref 24), (1, .ref 6)] [] 29 zrf27 zh4
  refine zv_aload_n X dX5_init_36 rfl rfl ?_
  refine zv_bipush (v := (80 : Int32)) X dX5_init_37 zbp_80 ?_
  refine zv_newaI (n := 80) X zk_29 zl_29 rfl (by decide) (by decide) za_int rfl dX5_init_39 ?_
  show J 41 [(0, .ref 24), (1, .ref 6)] [.ref 29, .ref 24] 30 zrf27 zh4
  refine zv_putF X zini_X5_init zf_RX5_24 (Or.inl ⟨_, rfl⟩) zk_24 (by decide) dX5_init_41 ?_
  show J 44 [(0, .ref 24), (1, .ref 6)] [] 30 zrf28 zh4
  refine zv_aload_n X dX5_init_44 rfl rfl ?_
  refine zv_sipush (v := (3200 : Int32)) X dX5_init_45 zsp_3200 ?_
  refine zv_newaI (n := 3200) X zk_30 zl_30 rfl (by decide) (by decide) za_int rfl dX5_init_48 ?_
  show J 50 [(0, .ref 24), (1, .ref 6)] [.ref 30, .ref 24] 31 zrf28 zh4
  refine zv_putF X zini_X5_init zf_RX5_27 (Or.inl ⟨_, rfl⟩) zk_24 (by decide) dX5_init_50 ?_
  show J 53 [(0, .ref 24), (1, .ref 6)] [] 31 zrf29 zh4
  refine zv_aload_n X dX5_init_53 rfl rfl ?_
  refine zv_iconst (v := (5 : Int32)) X dX5_init_54 zic_5 ?_
  refine zv_newaI (n := 5) X zk_31 zl_31 rfl (by decide) (by decide) za_int rfl dX5_init_55 ?_
  show J 57 [(0, .ref 24), (1, .ref 6)] [.ref 31, .ref 24] 32 zrf29 zh4
  refine zv_putF X zini_X5_init zf_RX5_30 (Or.inl ⟨_, rfl⟩) zk_24 (by decide) dX5_init_57 ?_
  show J 60 [(0, .ref 24), (1, .ref 6)] [] 32 zrf30 zh4
  refine zv_aload_n X dX5_init_60 rfl rfl ?_
  refine zv_iconst (v := (0 : Int32)) X dX5_init_61 zic_0 ?_
  refine zv_putI X zf_RX5_33 zk_24 (by decide) dX5_init_62 ?_
  show J 65 [(0, .ref 24), (1, .ref 6)] [] 32 zrf30 zh5
  refine zv_aload_n X dX5_init_65 rfl rfl ?_
  refine zv_iconst (v := (0 : Int32)) X dX5_init_66 zic_0 ?_
  refine zv_putI X zf_RX5_37 zk_24 (by decide) dX5_init_67 ?_
  show J 70 [(0, .ref 24), (1, .ref 6)] [] 32 zrf30 zh6
  refine zv_aload_n X dX5_init_70 rfl rfl ?_
  refine zv_aload_n X dX5_init_71 rfl rfl ?_
  refine zv_putF X zini_X5_init zf_RX5_40 (Or.inr ⟨_, rfl⟩) zk_24 (by decide) dX5_init_72 ?_
  show J 75 [(0, .ref 24), (1, .ref 6)] [] 32 zrf31 zh6
  refine zv_aload_n X dX5_init_75 rfl rfl ?_
  refine zv_getR (a := 29) X zf_RX5_24 znt_a zk_24 (by decide) (by decide +kernel) dX5_init_76 ?_
  refine zv_sipush (v := (1501 : Int32)) X dX5_init_79 zsp_1501 ?_
  refine zv_callS (stk := [.int (1501 : Int32), .ref 29]) (as := [.ref 29, .int (1501 : Int32)]) (st := []) X zl_RX5_44 zm_J7_fill_53178 (k_J7_fill_53178_29 (d := d - 1) (N := 32) (rf := zrf31) (by decide) (Nat.zero_le _) (f_J7_fill_53178_29 (1501 : Int32) zh6)) (by omega) rfl (Nat.le_of_ble_eq_true rfl) (by decide) rfl dX5_init_82 ?_
  show J 85 [(0, .ref 24), (1, .ref 6)] [] 32 zrf31 zh7
  exact zv_retV X rfl rfl dX5_init_85
set_option maxRecDepth 100000 in
set_option maxHeartbeats 4000000 in
theorem kc_X6_init_32 {l : Launch} {D : va_G} {cy : Nat → ClassId} {S0 d : Nat} (hd : 1 ≤ d) : zCT l D cy S0 d yX6_init cX6_init 1 none [.ref 32] 33 zrf32 zh7 none 35 zrf34 zh8 := by
  refine zCT_of RX6 rfl zm_X6_init (by decide) (Nat.le_of_ble_eq_true rfl) (fun J X => ?_)
  show J 0 [(0, .ref 32)] [] 33 zrf32 zh7
  refine zv_aload_n X dX6_init_0 rfl rfl ?_
  refine zv_objInit X (by omega) zo_RX6_3 zo_1 zo_2 (Nat.le_of_ble_eq_true rfl) dX6_init_1 ?_
  refine zv_aload_n X dX6_init_4 rfl rfl ?_
  refine zv_bipush (v := (10 : Int32)) X dX6_init_5 zbp_10 ?_
  refine zv_newaI (n := 10) X zk_33 zl_33 rfl (by decide) (by decide) za_int rfl dX6_init_7 ?_
  show J 9 [(0, .ref 32)] [.ref 33, .ref 32] 34 zrf32 zh7
  refine zv_putF X zini_X6_init zf_RX6_9 (Or.inl ⟨_, rfl⟩) zk_32 (by decide) dX6_init_9 ?_
  show J 12 [(0, .ref 32)] [] 34 zrf33 zh7
  refine zv_aload_n X dX6_init_12 rfl rfl ?_
  refine zv_bipush (v := (40 : Int32)) X dX6_init_13 zbp_40 ?_
  refine zv_newaI (n := 40) X zk_34 zl_34 rfl (by decide) (by decide) za_int rfl dX6_init_15 ?_
  show J 17 [(0, .ref 32)] [.ref 34, .ref 32] 35 zrf33 zh7
  refine zv_putF X zini_X6_init zf_RX6_15 (Or.inl ⟨_, rfl⟩) zk_32 (by decide) dX6_init_17 ?_
  show J 20 [(0, .ref 32)] [] 35 zrf34 zh7
  refine zv_aload_n X dX6_init_20 rfl rfl ?_
  refine zv_iconst (v := (0 : Int32)) X dX6_init_21 zic_0 ?_
  refine zv_putI X zf_RX6_18 zk_32 (by decide) dX6_init_22 ?_
  show J 25 [(0, .ref 32)] [] 35 zrf34 zh8
  exact zv_retV X rfl rfl dX6_init_25
set_option maxRecDepth 100000 in
set_option maxHeartbeats 4000000 in
theorem kc_X8_init_35 {l : Launch} {D : va_G} {cy : Nat → ClassId} {S0 d : Nat} (hd : 1 ≤ d) : zCT l D cy S0 d yX8_init cX8_init 1 none [.ref 35] 36 zrf35 zh8 none 46 zrf45 zh10 := by
  refine zCT_of RX8 rfl zm_X8_init (by decide) (Nat.le_of_ble_eq_true rfl) (fun J X => ?_)
  show J 0 [(0, .ref 35)] [] 36 zrf35 zh8
  refine zv_aload_n X dX8_init_0 rfl rfl ?_
  refine zv_objInit X (by omega) zo_RX8_3 zo_1 zo_2 (Nat.le_of_ble_eq_true rfl) dX8_init_1 ?_
  refine zv_aload_n X dX8_init_4 rfl rfl ?_
  refine zv_bipush (v := (6 : Int32)) X dX8_init_5 zbp_6 ?_
  refine zv_newaI (n := 6) X zk_36 zl_36 rfl (by decide) (by decide) za_int rfl dX8_init_7 ?_
  show J 9 [(0, .ref 35)] [.ref 36, .ref 35] 37 zrf35 zh8
  refine zv_putF X zini_X8_init zf_RX8_9 (Or.inl ⟨_, rfl⟩) zk_35 (by decide) dX8_init_9 ?_
  show J 12 [(0, .ref 35)] [] 37 zrf36 zh8
  refine zv_aload_n X dX8_init_12 rfl rfl ?_
  refine zv_bipush (v := (6 : Int32)) X dX8_init_13 zbp_6 ?_
  refine zv_newaI (n := 6) X zk_37 zl_37 rfl (by decide) (by decide) za_int rfl dX8_init_15 ?_
  show J 17 [(0, .ref 35)] [.ref 37, .ref 35] 38 zrf36 zh8
  refine zv_putF X zini_X8_init zf_RX8_15 (Or.inl ⟨_, rfl⟩) zk_35 (by decide) dX8_init_17 ?_
  show J 20 [(0, .ref 35)] [] 38 zrf37 zh8
  refine zv_aload_n X dX8_init_20 rfl rfl ?_
  refine zv_bipush (v := (6 : Int32)) X dX8_init_21 zbp_6 ?_
  refine zv_newaI (n := 6) X zk_38 zl_38 rfl (by decide) (by decide) za_int rfl dX8_init_23 ?_
  show J 25 [(0, .ref 35)] [.ref 38, .ref 35] 39 zrf37 zh8
  refine zv_putF X zini_X8_init zf_RX8_18 (Or.inl ⟨_, rfl⟩) zk_35 (by decide) dX8_init_25 ?_
  show J 28 [(0, .ref 35)] [] 39 zrf38 zh8
  refine zv_aload_n X dX8_init_28 rfl rfl ?_
  refine zv_bipush (v := (36 : Int32)) X dX8_init_29 zbp_36 ?_
  refine zv_newaI (n := 36) X zk_39 zl_39 rfl (by decide) (by decide) za_int rfl dX8_init_31 ?_
  show J 33 [(0, .ref 35)] [.ref 39, .ref 35] 40 zrf38 zh8
  refine zv_putF X zini_X8_init zf_RX8_21 (Or.inl ⟨_, rfl⟩) zk_35 (by decide) dX8_init_33 ?_
  show J 36 [(0, .ref 35)] [] 40 zrf39 zh8
  refine zv_aload_n X dX8_init_36 rfl rfl ?_
  refine zv_bipush (v := (6 : Int32)) X dX8_init_37 zbp_6 ?_
  refine zv_newaI (n := 6) X zk_40 zl_40 rfl (by decide) (by decide) za_int rfl dX8_init_39 ?_
  show J 41 [(0, .ref 35)] [.ref 40, .ref 35] 41 zrf39 zh8
  refine zv_putF X zini_X8_init zf_RX8_24 (Or.inl ⟨_, rfl⟩) zk_35 (by decide) dX8_init_41 ?_
  show J 44 [(0, .ref 35)] [] 41 zrf40 zh8
  refine zv_aload_n X dX8_init_44 rfl rfl ?_
  refine zv_bipush (v := (6 : Int32)) X dX8_init_45 zbp_6 ?_
  refine zv_newaI (n := 6) X zk_41 zl_41 rfl (by decide) (by decide) za_int rfl dX8_init_47 ?_
  show J 49 [(0, .ref 35)] [.ref 41, .ref 35] 42 zrf40 zh8
  refine zv_putF X zini_X8_init zf_RX8_27 (Or.inl ⟨_, rfl⟩) zk_35 (by decide) dX8_init_49 ?_
  show J 52 [(0, .ref 35)] [] 42 zrf41 zh8
  refine zv_aload_n X dX8_init_52 rfl rfl ?_
  refine zv_bipush (v := (15 : Int32)) X dX8_init_53 zbp_15 ?_
  refine zv_newaI (n := 15) X zk_42 zl_42 rfl (by decide) (by decide) za_int rfl dX8_init_55 ?_
  show J 57 [(0, .ref 35)] [.ref 42, .ref 35] 43 zrf41 zh8
  refine zv_putF X zini_X8_init zf_RX8_30 (Or.inl ⟨_, rfl⟩) zk_35 (by decide) dX8_init_57 ?_
  show J 60 [(0, .ref 35)] [] 43 zrf42 zh8
  refine zv_aload_n X dX8_init_60 rfl rfl ?_
  refine zv_sipush (v := (512 : Int32)) X dX8_init_61 zsp_512 ?_
  refine zv_newaI (n := 512) X zk_43 zl_43 rfl (by decide) (by decide) za_int rfl dX8_init_64 ?_
  show J 66 [(0, .ref 35)] [.ref 43, .ref 35] 44 zrf42 zh8
  refine zv_putF X zini_X8_init zf_RX8_33 (Or.inl ⟨_, rfl⟩) zk_35 (by decide) dX8_init_66 ?_
  show J 69 [(0, .ref 35)] [] 44 zrf43 zh8
  refine zv_aload_n X dX8_init_69 rfl rfl ?_
  refine zv_bipush (v := (64 : Int32)) X dX8_init_70 zbp_64 ?_
  refine zv_newaI (n := 64) X zk_44 zl_44 rfl (by decide) (by decide) za_int rfl dX8_init_72 ?_
  show J 74 [(0, .ref 35)] [.ref 44, .ref 35] 45 zrf43 zh8
  refine zv_putF X zini_X8_init zf_RX8_36 (Or.inl ⟨_, rfl⟩) zk_35 (by decide) dX8_init_74 ?_
  show J 77 [(0, .ref 35)] [] 45 zrf44 zh8
  refine zv_aload_n X dX8_init_77 rfl rfl ?_
  refine zv_bipush (v := (64 : Int32)) X dX8_init_78 zbp_64 ?_
  refine zv_newaI (n := 64) X zk_45 zl_45 rfl (by decide) (by decide) za_int rfl dX8_init_80 ?_
  show J 82 [(0, .ref 35)] [.ref 45, .ref 35] 46 zrf44 zh8
  refine zv_putF X zini_X8_init zf_RX8_39 (Or.inl ⟨_, rfl⟩) zk_35 (by decide) dX8_init_82 ?_
  show J 85 [(0, .ref 35)] [] 46 zrf45 zh8
  refine zv_aload_n X dX8_init_85 rfl rfl ?_
  refine zv_iconst (v := (0 : Int32)) X dX8_init_86 zic_0 ?_
  refine zv_putI X zf_RX8_42 zk_35 (by decide) dX8_init_87 ?_
  show J 90 [(0, .ref 35)] [] 46 zrf45 zh9
  refine zv_aload_n X dX8_init_90 rfl rfl ?_
  refine zv_iconst (v := (1 : Int32)) X dX8_init_91 zic_1 ?_
  refine zv_putI X zf_RX8_46 zk_35 (by decide) dX8_init_92 ?_
  show J 95 [(0, .ref 35)] [] 46 zrf45 zh10
  exact zv_retV X rfl rfl dX8_init_95
set_option maxRecDepth 100000 in
set_option maxHeartbeats 4000000 in
theorem kc_X2_init_51 {l : Launch} {D : va_G} {cy : Nat → ClassId} {S0 d : Nat} (hd : 1 ≤ d) : zCT l D cy S0 d yX2_init cX2_init 1 none [.ref 51] 52 zrf50 zh10 none 52 zrf50 zh12 := by
  refine zCT_of RX2 rfl zm_X2_init (by decide) (Nat.le_of_ble_eq_true rfl) (fun J X => ?_)
  show J 0 [(0, .ref 51)] [] 52 zrf50 zh10
  refine zv_aload_n X dX2_init_0 rfl rfl ?_
  refine zv_objInit X (by omega) zo_RX2_1 zo_1 zo_2 (Nat.le_of_ble_eq_true rfl) dX2_init_1 ?_
  refine zv_aload_n X dX2_init_4 rfl rfl ?_
  refine zv_lconst (v := (0 : Int64)) X dX2_init_5 rfl ?_
  refine zv_putL X zf_RX2_7 zk_51 (by decide) dX2_init_6 ?_
  show J 9 [(0, .ref 51)] [] 52 zrf50 zh11
  refine zv_aload_n X dX2_init_9 rfl rfl ?_
  refine zv_lconst (v := (1 : Int64)) X dX2_init_10 rfl ?_
  refine zv_putL X zf_RX2_13 zk_51 (by decide) dX2_init_11 ?_
  show J 14 [(0, .ref 51)] [] 52 zrf50 zh12
  exact zv_retV X rfl rfl dX2_init_14
set_option maxRecDepth 100000 in
set_option maxHeartbeats 4000000 in
theorem kc_X3_init_46 {l : Launch} {D : va_G} {cy : Nat → ClassId} {S0 d : Nat} (hd : 2 ≤ d) : zCT l D cy S0 d yX3_init cX3_init 2 none [.ref 46, .ref 24] 47 zrf46 zh10 none 52 zrf52 zh12 := by
  refine zCT_of RX3 rfl zm_X3_init (by decide) (Nat.le_of_ble_eq_true rfl) (fun J X => ?_)
  show J 0 [(0, .ref 46), (1, .ref 24)] [] 47 zrf46 zh10
  refine zv_aload_n X dX3_init_0 rfl rfl ?_
  refine zv_objInit X (by omega) zo_RX3_3 zo_1 zo_2 (Nat.le_of_ble_eq_true rfl) dX3_init_1 ?_
  refine zv_aload_n X dX3_init_4 rfl rfl ?_
  refine zv_bipush (v := (80 : Int32)) X dX3_init_5 zbp_80 ?_
  refine zv_newaI (n := 80) X zk_47 zl_47 rfl (by decide) (by decide) za_int rfl dX3_init_7 ?_
  show J 9 [(0, .ref 46), (1, .ref 24)] [.ref 47, .ref 46] 48 zrf46 zh10
  refine zv_putF X zini_X3_init zf_RX3_9 (Or.inl ⟨_, rfl⟩) zk_46 (by decide) dX3_init_9 ?_
  show J 12 [(0, .ref 46), (1, .ref 24)] [] 48 zrf47 zh10
  refine zv_aload_n X dX3_init_12 rfl rfl ?_
  refine zv_bipush (v := (25 : Int32)) X dX3_init_13 zbp_25 ?_
  refine zv_newaL (n := 25) X zk_48 zl_48 rfl (by decide) (by decide) za_long rfl dX3_init_15 ?_
  show J 17 [(0, .ref 46), (1, .ref 24)] [.ref 48, .ref 46] 49 zrf47 zh10
  refine zv_putF X zini_X3_init zf_RX3_15 (Or.inl ⟨_, rfl⟩) zk_46 (by decide) dX3_init_17 ?_
  show J 20 [(0, .ref 46), (1, .ref 24)] [] 49 zrf48 zh10
  refine zv_aload_n X dX3_init_20 rfl rfl ?_
  refine zv_iconst (v := (5 : Int32)) X dX3_init_21 zic_5 ?_
  refine zv_newaL (n := 5) X zk_49 zl_49 rfl (by decide) (by decide) za_long rfl dX3_init_22 ?_
  show J 24 [(0, .ref 46), (1, .ref 24)] [.ref 49, .ref 46] 50 zrf48 zh10
  refine zv_putF X zini_X3_init zf_RX3_19 (Or.inl ⟨_, rfl⟩) zk_46 (by decide) dX3_init_24 ?_
  show J 27 [(0, .ref 46), (1, .ref 24)] [] 50 zrf49 zh10
  refine zv_aload_n X dX3_init_27 rfl rfl ?_
  refine zv_iconst (v := (5 : Int32)) X dX3_init_28 zic_5 ?_
  refine zv_newaI (n := 5) X zk_50 zl_50 rfl (by decide) (by decide) za_int rfl dX3_init_29 ?_
  show J 31 [(0, .ref 46), (1, .ref 24)] [.ref 50, .ref 46] 51 zrf49 zh10
  refine zv_putF X zini_X3_init zf_RX3_22 (Or.inl ⟨_, rfl⟩) zk_46 (by decide) dX3_init_31 ?_
  show J 34 [(0, .ref 46), (1, .ref 24)] [] 51 zrf50 zh10
  refine zv_aload_n X dX3_init_34 rfl rfl ?_
  refine zv_new (ci := 2) (q := (RX2, TX2, 2)) X rfl zk_51 zl_51 (by decide) zn_RX3_25 zi_RX2 zj_RX2 rfl rfl rfl zty_2 dX3_init_35 ?_
  show J 38 [(0, .ref 46), (1, .ref 24)] [.ref 51, .ref 46] 52 zrf50 zh10
  refine zv_dup_r X dX3_init_38 ?_
  refine zv_callN (ret' := none) (stk := [.ref 51, .ref 51, .ref 46]) (as := []) (st := [.ref 51, .ref 46]) (k := 51) X zl_RX3_27 zm_X2_init (kc_X2_init_51 (d := d - 1) (by omega)) (by omega) rfl (Nat.le_of_ble_eq_true rfl) (by decide) rfl dX3_init_39 ?_
  show J 42 [(0, .ref 46), (1, .ref 24)] [.ref 51, .ref 46] 52 zrf50 zh12
  refine zv_putF X zini_X3_init zf_RX3_28 (Or.inr ⟨_, rfl⟩) zk_46 (by decide) dX3_init_42 ?_
  show J 45 [(0, .ref 46), (1, .ref 24)] [] 52 zrf51 zh12
  refine zv_aload_n X dX3_init_45 rfl rfl ?_
  refine zv_aload_n X dX3_init_46 rfl rfl ?_
  refine zv_putF X zini_X3_init zf_RX3_32 (Or.inr ⟨_, rfl⟩) zk_46 (by decide) dX3_init_47 ?_
  show J 50 [(0, .ref 46), (1, .ref 24)] [] 52 zrf52 zh12
  exact zv_retV X rfl rfl dX3_init_50
set_option maxRecDepth 100000 in
set_option maxHeartbeats 4000000 in
theorem kc_X2_init_58 {l : Launch} {D : va_G} {cy : Nat → ClassId} {S0 d : Nat} (hd : 1 ≤ d) : zCT l D cy S0 d yX2_init cX2_init 1 none [.ref 58] 59 zrf58 zh12 none 59 zrf58 zh14 := by
  refine zCT_of RX2 rfl zm_X2_init (by decide) (Nat.le_of_ble_eq_true rfl) (fun J X => ?_)
  show J 0 [(0, .ref 58)] [] 59 zrf58 zh12
  refine zv_aload_n X dX2_init_0 rfl rfl ?_
  refine zv_objInit X (by omega) zo_RX2_1 zo_1 zo_2 (Nat.le_of_ble_eq_true rfl) dX2_init_1 ?_
  refine zv_aload_n X dX2_init_4 rfl rfl ?_
  refine zv_lconst (v := (0 : Int64)) X dX2_init_5 rfl ?_
  refine zv_putL X zf_RX2_7 zk_58 (by decide) dX2_init_6 ?_
  show J 9 [(0, .ref 58)] [] 59 zrf58 zh13
  refine zv_aload_n X dX2_init_9 rfl rfl ?_
  refine zv_lconst (v := (1 : Int64)) X dX2_init_10 rfl ?_
  refine zv_putL X zf_RX2_13 zk_58 (by decide) dX2_init_11 ?_
  show J 14 [(0, .ref 58)] [] 59 zrf58 zh14
  exact zv_retV X rfl rfl dX2_init_14
set_option maxRecDepth 100000 in
set_option maxHeartbeats 4000000 in
theorem kc_X1_init_52 {l : Launch} {D : va_G} {cy : Nat → ClassId} {S0 d : Nat} (hd : 2 ≤ d) : zCT l D cy S0 d yX1_init cX1_init 2 none [.ref 52, .ref 13] 53 zrf53 zh12 none 59 zrf60 zh15 := by
  refine zCT_of RX1 rfl zm_X1_init (by decide) (Nat.le_of_ble_eq_true rfl) (fun J X => ?_)
  show J 0 [(0, .ref 52), (1, .ref 13)] [] 53 zrf53 zh12
  refine zv_aload_n X dX1_init_0 rfl rfl ?_
  refine zv_objInit X (by omega) zo_RX1_3 zo_1 zo_2 (Nat.le_of_ble_eq_true rfl) dX1_init_1 ?_
  refine zv_aload_n X dX1_init_4 rfl rfl ?_
  refine zv_bipush (v := (20 : Int32)) X dX1_init_5 zbp_20 ?_
  refine zv_newaI (n := 20) X zk_53 zl_53 rfl (by decide) (by decide) za_int rfl dX1_init_7 ?_
  show J 9 [(0, .ref 52), (1, .ref 13)] [.ref 53, .ref 52] 54 zrf53 zh12
  refine zv_putF X zini_X1_init zf_RX1_9 (Or.inl ⟨_, rfl⟩) zk_52 (by decide) dX1_init_9 ?_
  show J 12 [(0, .ref 52), (1, .ref 13)] [] 54 zrf54 zh12
  refine zv_aload_n X dX1_init_12 rfl rfl ?_
  refine zv_bipush (v := (20 : Int32)) X dX1_init_13 zbp_20 ?_
  refine zv_newaI (n := 20) X zk_54 zl_54 rfl (by decide) (by decide) za_int rfl dX1_init_15 ?_
  show J 17 [(0, .ref 52), (1, .ref 13)] [.ref 54, .ref 52] 55 zrf54 zh12
  refine zv_putF X zini_X1_init zf_RX1_15 (Or.inl ⟨_, rfl⟩) zk_52 (by decide) dX1_init_17 ?_
  show J 20 [(0, .ref 52), (1, .ref 13)] [] 55 zrf55 zh12
  refine zv_aload_n X dX1_init_20 rfl rfl ?_
  refine zv_bipush (v := (20 : Int32)) X dX1_init_21 zbp_20 ?_
  refine zv_newaI (n := 20) X zk_55 zl_55 rfl (by decide) (by decide) za_int rfl dX1_init_23 ?_
  show J 25 [(0, .ref 52), (1, .ref 13)] [.ref 55, .ref 52] 56 zrf55 zh12
  refine zv_putF X zini_X1_init zf_RX1_18 (Or.inl ⟨_, rfl⟩) zk_52 (by decide) dX1_init_25 ?_
  show J 28 [(0, .ref 52), (1, .ref 13)] [] 56 zrf56 zh12
  refine zv_aload_n X dX1_init_28 rfl rfl ?_
  refine zv_bipush (v := (20 : Int32)) X dX1_init_29 zbp_20 ?_
  refine zv_newaI (n := 20) X zk_56 zl_56 rfl (by decide) (by decide) za_int rfl dX1_init_31 ?_
  show J 33 [(0, .ref 52), (1, .ref 13)] [.ref 56, .ref 52] 57 zrf56 zh12
  refine zv_putF X zini_X1_init zf_RX1_21 (Or.inl ⟨_, rfl⟩) zk_52 (by decide) dX1_init_33 ?_
  show J 36 [(0, .ref 52), (1, .ref 13)] [] 57 zrf57 zh12
  refine zv_aload_n X dX1_init_36 rfl rfl ?_
  refine zv_bipush (v := (20 : Int32)) X dX1_init_37 zbp_20 ?_
  refine zv_newaI (n := 20) X zk_57 zl_57 rfl (by decide) (by decide) za_int rfl dX1_init_39 ?_
  show J 41 [(0, .ref 52), (1, .ref 13)] [.ref 57, .ref 52] 58 zrf57 zh12
  refine zv_putF X zini_X1_init zf_RX1_24 (Or.inl ⟨_, rfl⟩) zk_52 (by decide) dX1_init_41 ?_
  show J 44 [(0, .ref 52), (1, .ref 13)] [] 58 zrf58 zh12
  refine zv_aload_n X dX1_init_44 rfl rfl ?_
  refine zv_new (ci := 2) (q := (RX2, TX2, 2)) X rfl zk_58 zl_58 (by decide) zn_RX1_27 zi_RX2 zj_RX2 rfl rfl rfl zty_2 dX1_init_45 ?_
  show J 48 [(0, .ref 52), (1, .ref 13)] [.ref 58, .ref 52] 59 zrf58 zh12
  refine zv_dup_r X dX1_init_48 ?_
  refine zv_callN (ret' := none) (stk := [.ref 58, .ref 58, .ref 52]) (as := []) (st := [.ref 58, .ref 52]) (k := 58) X zl_RX1_29 zm_X2_init (kc_X2_init_58 (d := d - 1) (by omega)) (by omega) rfl (Nat.le_of_ble_eq_true rfl) (by decide) rfl dX1_init_49 ?_
  show J 52 [(0, .ref 52), (1, .ref 13)] [.ref 58, .ref 52] 59 zrf58 zh14
  refine zv_putF X zini_X1_init zf_RX1_30 (Or.inr ⟨_, rfl⟩) zk_52 (by decide) dX1_init_52 ?_
  show J 55 [(0, .ref 52), (1, .ref 13)] [] 59 zrf59 zh14
  refine zv_aload_n X dX1_init_55 rfl rfl ?_
  refine zv_iconst (v := (0 : Int32)) X dX1_init_56 zic_0 ?_
  refine zv_putI X zf_RX1_34 zk_52 (by decide) dX1_init_57 ?_
  show J 60 [(0, .ref 52), (1, .ref 13)] [] 59 zrf59 zh15
  refine zv_aload_n X dX1_init_60 rfl rfl ?_
  refine zv_aload_n X dX1_init_61 rfl rfl ?_
  refine zv_putF X zini_X1_init zf_RX1_38 (Or.inr ⟨_, rfl⟩) zk_52 (by decide) dX1_init_62 ?_
  show J 65 [(0, .ref 52), (1, .ref 13)] [] 59 zrf60 zh15
  exact zv_retV X rfl rfl dX1_init_65
set_option maxRecDepth 100000 in
set_option maxHeartbeats 4000000 in
theorem kc_X2_init_65 {l : Launch} {D : va_G} {cy : Nat → ClassId} {S0 d : Nat} (hd : 1 ≤ d) : zCT l D cy S0 d yX2_init cX2_init 1 none [.ref 65] 66 zrf66 zh15 none 66 zrf66 zh17 := by
  refine zCT_of RX2 rfl zm_X2_init (by decide) (Nat.le_of_ble_eq_true rfl) (fun J X => ?_)
  show J 0 [(0, .ref 65)] [] 66 zrf66 zh15
  refine zv_aload_n X dX2_init_0 rfl rfl ?_
  refine zv_objInit X (by omega) zo_RX2_1 zo_1 zo_2 (Nat.le_of_ble_eq_true rfl) dX2_init_1 ?_
  refine zv_aload_n X dX2_init_4 rfl rfl ?_
  refine zv_lconst (v := (0 : Int64)) X dX2_init_5 rfl ?_
  refine zv_putL X zf_RX2_7 zk_65 (by decide) dX2_init_6 ?_
  show J 9 [(0, .ref 65)] [] 66 zrf66 zh16
  refine zv_aload_n X dX2_init_9 rfl rfl ?_
  refine zv_lconst (v := (1 : Int64)) X dX2_init_10 rfl ?_
  refine zv_putL X zf_RX2_13 zk_65 (by decide) dX2_init_11 ?_
  show J 14 [(0, .ref 65)] [] 66 zrf66 zh17
  exact zv_retV X rfl rfl dX2_init_14
set_option maxRecDepth 100000 in
set_option maxHeartbeats 4000000 in
theorem kc_X7_init_59 {l : Launch} {D : va_G} {cy : Nat → ClassId} {S0 d : Nat} (hd : 2 ≤ d) : zCT l D cy S0 d yX7_init cX7_init 1 none [.ref 59] 60 zrf61 zh15 none 66 zrf67 zh18 := by
  refine zCT_of RX7 rfl zm_X7_init (by decide) (Nat.le_of_ble_eq_true rfl) (fun J X => ?_)
  show J 0 [(0, .ref 59)] [] 60 zrf61 zh15
  refine zv_aload_n X dX7_init_0 rfl rfl ?_
  refine zv_objInit X (by omega) zo_RX7_3 zo_1 zo_2 (Nat.le_of_ble_eq_true rfl) dX7_init_1 ?_
  refine zv_aload_n X dX7_init_4 rfl rfl ?_
  refine zv_bipush (v := (6 : Int32)) X dX7_init_5 zbp_6 ?_
  refine zv_newaI (n := 6) X zk_60 zl_60 rfl (by decide) (by decide) za_int rfl dX7_init_7 ?_
  show J 9 [(0, .ref 59)] [.ref 60, .ref 59] 61 zrf61 zh15
  refine zv_putF X zini_X7_init zf_RX7_9 (Or.inl ⟨_, rfl⟩) zk_59 (by decide) dX7_init_9 ?_
  show J 12 [(0, .ref 59)] [] 61 zrf62 zh15
  refine zv_aload_n X dX7_init_12 rfl rfl ?_
  refine zv_bipush (v := (72 : Int32)) X dX7_init_13 zbp_72 ?_
  refine zv_newaI (n := 72) X zk_61 zl_61 rfl (by decide) (by decide) za_int rfl dX7_init_15 ?_
  show J 17 [(0, .ref 59)] [.ref 61, .ref 59] 62 zrf62 zh15
  refine zv_putF X zini_X7_init zf_RX7_15 (Or.inl ⟨_, rfl⟩) zk_59 (by decide) dX7_init_17 ?_
  show J 20 [(0, .ref 59)] [] 62 zrf63 zh15
  refine zv_aload_n X dX7_init_20 rfl rfl ?_
  refine zv_bipush (v := (72 : Int32)) X dX7_init_21 zbp_72 ?_
  refine zv_newaL (n := 72) X zk_62 zl_62 rfl (by decide) (by decide) za_long rfl dX7_init_23 ?_
  show J 25 [(0, .ref 59)] [.ref 62, .ref 59] 63 zrf63 zh15
  refine zv_putF X zini_X7_init zf_RX7_18 (Or.inl ⟨_, rfl⟩) zk_59 (by decide) dX7_init_25 ?_
  show J 28 [(0, .ref 59)] [] 63 zrf64 zh15
  refine zv_aload_n X dX7_init_28 rfl rfl ?_
  refine zv_bipush (v := (6 : Int32)) X dX7_init_29 zbp_6 ?_
  refine zv_newaI (n := 6) X zk_63 zl_63 rfl (by decide) (by decide) za_int rfl dX7_init_31 ?_
  show J 33 [(0, .ref 59)] [.ref 63, .ref 59] 64 zrf64 zh15
  refine zv_putF X zini_X7_init zf_RX7_22 (Or.inl ⟨_, rfl⟩) zk_59 (by decide) dX7_init_33 ?_
  show J 36 [(0, .ref 59)] [] 64 zrf65 zh15
  refine zv_aload_n X dX7_init_36 rfl rfl ?_
  refine zv_bipush (v := (6 : Int32)) X dX7_init_37 zbp_6 ?_
  refine zv_newaI (n := 6) X zk_64 zl_64 rfl (by decide) (by decide) za_int rfl dX7_init_39 ?_
  show J 41 [(0, .ref 59)] [.ref 64, .ref 59] 65 zrf65 zh15
  refine zv_putF X zini_X7_init zf_RX7_25 (Or.inl ⟨_, rfl⟩) zk_59 (by decide) dX7_init_41 ?_
  show J 44 [(0, .ref 59)] [] 65 zrf66 zh15
  refine zv_aload_n X dX7_init_44 rfl rfl ?_
  refine zv_new (ci := 2) (q := (RX2, TX2, 2)) X rfl zk_65 zl_65 (by decide) zn_RX7_28 zi_RX2 zj_RX2 rfl rfl rfl zty_2 dX7_init_45 ?_
  show J 48 [(0, .ref 59)] [.ref 65, .ref 59] 66 zrf66 zh15
  refine zv_dup_r X dX7_init_48 ?_
  refine zv_callN (ret' := none) (stk := [.ref 65, .ref 65, .ref 59]) (as := []) (st := [.ref 65, .ref 59]) (k := 65) X zl_RX7_30 zm_X2_init (kc_X2_init_65 (d := d - 1) (by omega)) (by omega) rfl (Nat.le_of_ble_eq_true rfl) (by decide) rfl dX7_init_49 ?_
  show J 52 [(0, .ref 59)] [.ref 65, .ref 59] 66 zrf66 zh17
  refine zv_putF X zini_X7_init zf_RX7_31 (Or.inr ⟨_, rfl⟩) zk_59 (by decide) dX7_init_52 ?_
  show J 55 [(0, .ref 59)] [] 66 zrf67 zh17
  refine zv_aload_n X dX7_init_55 rfl rfl ?_
  refine zv_getR (a := 60) X zf_RX7_9 znt_a zk_59 (by decide) (by decide +kernel) dX7_init_56 ?_
  refine zv_bipush (v := (12 : Int32)) X dX7_init_59 zbp_12 ?_
  refine zv_callS (stk := [.int (12 : Int32), .ref 60]) (as := [.ref 60, .int (12 : Int32)]) (st := []) X zl_RX7_35 zm_J7_fill_53178 (k_J7_fill_53178_60 (d := d - 1) (N := 66) (rf := zrf67) (by decide) (Nat.zero_le _) (f_J7_fill_53178_60 (12 : Int32) zh17)) (by omega) rfl (Nat.le_of_ble_eq_true rfl) (by decide) rfl dX7_init_61 ?_
  show J 64 [(0, .ref 59)] [] 66 zrf67 zh18
  exact zv_retV X rfl rfl dX7_init_64
set_option maxRecDepth 100000 in
set_option maxHeartbeats 4000000 in
theorem kc_X2_init_66 {l : Launch} {D : va_G} {cy : Nat → ClassId} {S0 d : Nat} (hd : 1 ≤ d) : zCT l D cy S0 d yX2_init cX2_init 1 none [.ref 66] 67 zrf68 zh18 none 67 zrf68 zh20 := by
  refine zCT_of RX2 rfl zm_X2_init (by decide) (Nat.le_of_ble_eq_true rfl) (fun J X => ?_)
  show J 0 [(0, .ref 66)] [] 67 zrf68 zh18
  refine zv_aload_n X dX2_init_0 rfl rfl ?_
  refine zv_objInit X (by omega) zo_RX2_1 zo_1 zo_2 (Nat.le_of_ble_eq_true rfl) dX2_init_1 ?_
  refine zv_aload_n X dX2_init_4 rfl rfl ?_
  refine zv_lconst (v := (0 : Int64)) X dX2_init_5 rfl ?_
  refine zv_putL X zf_RX2_7 zk_66 (by decide) dX2_init_6 ?_
  show J 9 [(0, .ref 66)] [] 67 zrf68 zh19
  refine zv_aload_n X dX2_init_9 rfl rfl ?_
  refine zv_lconst (v := (1 : Int64)) X dX2_init_10 rfl ?_
  refine zv_putL X zf_RX2_13 zk_66 (by decide) dX2_init_11 ?_
  show J 14 [(0, .ref 66)] [] 67 zrf68 zh20
  exact zv_retV X rfl rfl dX2_init_14
set_option maxRecDepth 100000 in
set_option maxHeartbeats 4000000 in
theorem kc_X9_init_0 {l : Launch} {D : va_G} {cy : Nat → ClassId} {S0 d : Nat} (hd : 3 ≤ d) : zCT l D cy S0 d yX9_init cX9_init 1 none [.ref 0] 1 zrf0 zh0 none 67 zrf69 zh23 := by
  refine zCT_of RX9 rfl zm_X9_init (by decide) (Nat.le_of_ble_eq_true rfl) (fun J X => ?_)
  show J 0 [(0, .ref 0)] [] 1 zrf0 zh0
  refine zv_aload_n X dX9_init_0 rfl rfl ?_
  refine zv_objInit X (by omega) zo_RX9_3 zo_1 zo_2 (Nat.le_of_ble_eq_true rfl) dX9_init_1 ?_
  refine zv_aload_n X dX9_init_4 rfl rfl ?_
  refine zv_bipush (v := (8 : Int32)) X dX9_init_5 zbp_8 ?_
  refine zv_newaI (n := 8) X zk_1 zl_1 rfl (by decide) (by decide) za_int rfl dX9_init_7 ?_
  show J 9 [(0, .ref 0)] [.ref 1, .ref 0] 2 zrf0 zh0
  refine zv_putF X zini_X9_init zf_RX9_9 (Or.inl ⟨_, rfl⟩) zk_0 (by decide) dX9_init_9 ?_
  show J 12 [(0, .ref 0)] [] 2 zrf1 zh0
  refine zv_aload_n X dX9_init_12 rfl rfl ?_
  refine zv_bipush (v := (50 : Int32)) X dX9_init_13 zbp_50 ?_
  refine zv_newaZ (n := 50) X zk_2 zl_2 rfl (by decide) (by decide) za_boolean rfl dX9_init_15 ?_
  show J 17 [(0, .ref 0)] [.ref 2, .ref 0] 3 zrf1 zh0
  refine zv_putF X zini_X9_init zf_RX9_13 (Or.inl ⟨_, rfl⟩) zk_0 (by decide) dX9_init_17 ?_
  show J 20 [(0, .ref 0)] [] 3 zrf2 zh0
  refine zv_aload_n X dX9_init_20 rfl rfl ?_
  refine zv_iconst (v := (4 : Int32)) X dX9_init_21 zic_4 ?_
  refine zv_newaI (n := 4) X zk_3 zl_3 rfl (by decide) (by decide) za_int rfl dX9_init_22 ?_
  show J 24 [(0, .ref 0)] [.ref 3, .ref 0] 4 zrf2 zh0
  refine zv_putF X zini_X9_init zf_RX9_17 (Or.inl ⟨_, rfl⟩) zk_0 (by decide) dX9_init_24 ?_
  show J 27 [(0, .ref 0)] [] 4 zrf3 zh0
  refine zv_aload_n X dX9_init_27 rfl rfl ?_
  refine zv_bipush (v := (20 : Int32)) X dX9_init_28 zbp_20 ?_
  refine zv_newaI (n := 20) X zk_4 zl_4 rfl (by decide) (by decide) za_int rfl dX9_init_30 ?_
  show J 32 [(0, .ref 0)] [.ref 4, .ref 0] 5 zrf3 zh0
  refine zv_putF X zini_X9_init zf_RX9_20 (Or.inl ⟨_, rfl⟩) zk_0 (by decide) dX9_init_32 ?_
  show J 35 [(0, .ref 0)] [] 5 zrf4 zh0
  refine zv_aload_n X dX9_init_35 rfl rfl ?_
  refine zv_iconst (v := (5 : Int32)) X dX9_init_36 zic_5 ?_
  refine zv_newaI (n := 5) X zk_5 zl_5 rfl (by decide) (by decide) za_int rfl dX9_init_37 ?_
  show J 39 [(0, .ref 0)] [.ref 5, .ref 0] 6 zrf4 zh0
  refine zv_putF X zini_X9_init zf_RX9_23 (Or.inl ⟨_, rfl⟩) zk_0 (by decide) dX9_init_39 ?_
  show J 42 [(0, .ref 0)] [] 6 zrf5 zh0
  refine zv_aload_n X dX9_init_42 rfl rfl ?_
  refine zv_new (ci := 0) (q := (RX0, TX0, 7)) X rfl zk_6 zl_6 (by decide) zn_RX9_26 zi_RX0 zj_RX0 rfl rfl rfl zty_0 dX9_init_43 ?_
  show J 46 [(0, .ref 0)] [.ref 6, .ref 0] 7 zrf5 zh0
  refine zv_dup_r X dX9_init_46 ?_
  refine zv_callI (ret' := none) (stk := [.ref 6, .ref 6, .ref 0]) (as := []) (st := [.ref 6, .ref 0]) (k := 6) X zl_RX9_28 zm_X0_init (kc_X0_init_6 (d := d - 1) (by omega)) (by omega) rfl (Nat.le_of_ble_eq_true rfl) (by decide) rfl dX9_init_47 ?_
  show J 50 [(0, .ref 0)] [.ref 6, .ref 0] 13 zrf11 zh3
  refine zv_putF X zini_X9_init zf_RX9_29 (Or.inr ⟨_, rfl⟩) zk_0 (by decide) dX9_init_50 ?_
  show J 53 [(0, .ref 0)] [] 13 zrf12 zh3
  refine zv_aload_n X dX9_init_53 rfl rfl ?_
  refine zv_new (ci := 4) (q := (RX4, TX4, 11)) X rfl zk_13 zl_13 (by decide) zn_RX9_33 zi_RX4 zj_RX4 rfl rfl rfl zty_4 dX9_init_54 ?_
  show J 57 [(0, .ref 0)] [.ref 13, .ref 0] 14 zrf12 zh3
  refine zv_dup_r X dX9_init_57 ?_
  refine zv_callN (ret' := none) (stk := [.ref 13, .ref 13, .ref 0]) (as := []) (st := [.ref 13, .ref 0]) (k := 13) X zl_RX9_35 zm_X4_init (kc_X4_init_13 (d := d - 1) (by omega)) (by omega) rfl (Nat.le_of_ble_eq_true rfl) (by decide) rfl dX9_init_58 ?_
  show J 61 [(0, .ref 0)] [.ref 13, .ref 0] 24 zrf22 zh4
  refine zv_putF X zini_X9_init zf_RX9_36 (Or.inr ⟨_, rfl⟩) zk_0 (by decide) dX9_init_61 ?_
  show J 64 [(0, .ref 0)] [] 24 zrf23 zh4
  refine zv_aload_n X dX9_init_64 rfl rfl ?_
  refine zv_new (ci := 5) (q := (RX5, TX5, 10)) X rfl zk_24 zl_24 (by decide) zn_RX9_40 zi_RX5 zj_RX5 rfl rfl rfl zty_5 dX9_init_65 ?_
  show J 68 [(0, .ref 0)] [.ref 24, .ref 0] 25 zrf23 zh4
  refine zv_dup_r X dX9_init_68 ?_
  refine zv_aload_n X dX9_init_69 rfl rfl ?_
  refine zv_getR (a := 6) X zf_RX9_29 znt_o zk_0 (by decide) (by decide +kernel) dX9_init_70 ?_
  refine zv_callI (ret' := none) (stk := [.ref 6, .ref 24, .ref 24, .ref 0]) (as := [.ref 6]) (st := [.ref 24, .ref 0]) (k := 24) X zl_RX9_42 zm_X5_init (kc_X5_init_24 (d := d - 1) (by omega)) (by omega) rfl (Nat.le_of_ble_eq_true rfl) (by decide) rfl dX9_init_73 ?_
  show J 76 [(0, .ref 0)] [.ref 24, .ref 0] 32 zrf31 zh7
  refine zv_putF X zini_X9_init zf_RX9_45 (Or.inr ⟨_, rfl⟩) zk_0 (by decide) dX9_init_76 ?_
  show J 79 [(0, .ref 0)] [] 32 zrf32 zh7
  refine zv_aload_n X dX9_init_79 rfl rfl ?_
  refine zv_new (ci := 6) (q := (RX6, TX6, 3)) X rfl zk_32 zl_32 (by decide) zn_RX9_49 zi_RX6 zj_RX6 rfl rfl rfl zty_6 dX9_init_80 ?_
  show J 83 [(0, .ref 0)] [.ref 32, .ref 0] 33 zrf32 zh7
  refine zv_dup_r X dX9_init_83 ?_
  refine zv_callN (ret' := none) (stk := [.ref 32, .ref 32, .ref 0]) (as := []) (st := [.ref 32, .ref 0]) (k := 32) X zl_RX9_51 zm_X6_init (kc_X6_init_32 (d := d - 1) (by omega)) (by omega) rfl (Nat.le_of_ble_eq_true rfl) (by decide) rfl dX9_init_84 ?_
  show J 87 [(0, .ref 0)] [.ref 32, .ref 0] 35 zrf34 zh8
  refine zv_putF X zini_X9_init zf_RX9_52 (Or.inr ⟨_, rfl⟩) zk_0 (by decide) dX9_init_87 ?_
  show J 90 [(0, .ref 0)] [] 35 zrf35 zh8
  refine zv_aload_n X dX9_init_90 rfl rfl ?_
  refine zv_new (ci := 8) (q := (RX8, TX8, 12)) X rfl zk_35 zl_35 (by decide) zn_RX9_56 zi_RX8 zj_RX8 rfl rfl rfl zty_8 dX9_init_91 ?_
  show J 94 [(0, .ref 0)] [.ref 35, .ref 0] 36 zrf35 zh8
  refine zv_dup_r X dX9_init_94 ?_
  refine zv_callN (ret' := none) (stk := [.ref 35, .ref 35, .ref 0]) (as := []) (st := [.ref 35, .ref 0]) (k := 35) X zl_RX9_58 zm_X8_init (kc_X8_init_35 (d := d - 1) (by omega)) (by omega) rfl (Nat.le_of_ble_eq_true rfl) (by decide) rfl dX9_init_95 ?_
  show J 98 [(0, .ref 0)] [.ref 35, .ref 0] 46 zrf45 zh10
  refine zv_putF X zini_X9_init zf_RX9_59 (Or.inr ⟨_, rfl⟩) zk_0 (by decide) dX9_init_98 ?_
  show J 101 [(0, .ref 0)] [] 46 zrf46 zh10
  refine zv_aload_n X dX9_init_101 rfl rfl ?_
  refine zv_new (ci := 3) (q := (RX3, TX3, 6)) X rfl zk_46 zl_46 (by decide) zn_RX9_63 zi_RX3 zj_RX3 rfl rfl rfl zty_3 dX9_init_102 ?_
  show J 105 [(0, .ref 0)] [.ref 46, .ref 0] 47 zrf46 zh10
  refine zv_dup_r X dX9_init_105 ?_
  refine zv_aload_n X dX9_init_106 rfl rfl ?_
  refine zv_getR (a := 24) X zf_RX9_45 znt_o zk_0 (by decide) (by decide +kernel) dX9_init_107 ?_
  refine zv_callI (ret' := none) (stk := [.ref 24, .ref 46, .ref 46, .ref 0]) (as := [.ref 24]) (st := [.ref 46, .ref 0]) (k := 46) X zl_RX9_65 zm_X3_init (kc_X3_init_46 (d := d - 1) (by omega)) (by omega) rfl (Nat.le_of_ble_eq_true rfl) (by decide) rfl dX9_init_110 ?_
  show J 113 [(0, .ref 0)] [.ref 46, .ref 0] 52 zrf52 zh12
  refine zv_putF X zini_X9_init zf_RX9_68 (Or.inr ⟨_, rfl⟩) zk_0 (by decide) dX9_init_113 ?_
  show J 116 [(0, .ref 0)] [] 52 zrf53 zh12
  refine zv_aload_n X dX9_init_116 rfl rfl ?_
  refine zv_new (ci := 1) (q := (RX1, TX1, 8)) X rfl zk_52 zl_52 (by decide) zn_RX9_72 zi_RX1 zj_RX1 rfl rfl rfl zty_1 dX9_init_117 ?_
  show J 120 [(0, .ref 0)] [.ref 52, .ref 0] 53 zrf53 zh12
  refine zv_dup_r X dX9_init_120 ?_
  refine zv_aload_n X dX9_init_121 rfl rfl ?_
  refine zv_getR (a := 13) X zf_RX9_36 znt_o zk_0 (by decide) (by decide +kernel) dX9_init_122 ?_
  refine zv_callI (ret' := none) (stk := [.ref 13, .ref 52, .ref 52, .ref 0]) (as := [.ref 13]) (st := [.ref 52, .ref 0]) (k := 52) X zl_RX9_74 zm_X1_init (kc_X1_init_52 (d := d - 1) (by omega)) (by omega) rfl (Nat.le_of_ble_eq_true rfl) (by decide) rfl dX9_init_125 ?_
  show J 128 [(0, .ref 0)] [.ref 52, .ref 0] 59 zrf60 zh15
  refine zv_putF X zini_X9_init zf_RX9_77 (Or.inr ⟨_, rfl⟩) zk_0 (by decide) dX9_init_128 ?_
  show J 131 [(0, .ref 0)] [] 59 zrf61 zh15
  refine zv_aload_n X dX9_init_131 rfl rfl ?_
  refine zv_new (ci := 7) (q := (RX7, TX7, 6)) X rfl zk_59 zl_59 (by decide) zn_RX9_81 zi_RX7 zj_RX7 rfl rfl rfl zty_7 dX9_init_132 ?_
  show J 135 [(0, .ref 0)] [.ref 59, .ref 0] 60 zrf61 zh15
  refine zv_dup_r X dX9_init_135 ?_
  refine zv_callI (ret' := none) (stk := [.ref 59, .ref 59, .ref 0]) (as := []) (st := [.ref 59, .ref 0]) (k := 59) X zl_RX9_83 zm_X7_init (kc_X7_init_59 (d := d - 1) (by omega)) (by omega) rfl (Nat.le_of_ble_eq_true rfl) (by decide) rfl dX9_init_136 ?_
  show J 139 [(0, .ref 0)] [.ref 59, .ref 0] 66 zrf67 zh18
  refine zv_putF X zini_X9_init zf_RX9_84 (Or.inr ⟨_, rfl⟩) zk_0 (by decide) dX9_init_139 ?_
  show J 142 [(0, .ref 0)] [] 66 zrf68 zh18
  refine zv_aload_n X dX9_init_142 rfl rfl ?_
  refine zv_new (ci := 2) (q := (RX2, TX2, 2)) X rfl zk_66 zl_66 (by decide) zn_RX9_88 zi_RX2 zj_RX2 rfl rfl rfl zty_2 dX9_init_143 ?_
  show J 146 [(0, .ref 0)] [.ref 66, .ref 0] 67 zrf68 zh18
  refine zv_dup_r X dX9_init_146 ?_
  refine zv_callN (ret' := none) (stk := [.ref 66, .ref 66, .ref 0]) (as := []) (st := [.ref 66, .ref 0]) (k := 66) X zl_RX9_90 zm_X2_init (kc_X2_init_66 (d := d - 1) (by omega)) (by omega) rfl (Nat.le_of_ble_eq_true rfl) (by decide) rfl dX9_init_147 ?_
  show J 150 [(0, .ref 0)] [.ref 66, .ref 0] 67 zrf68 zh20
  refine zv_putF X zini_X9_init zf_RX9_91 (Or.inr ⟨_, rfl⟩) zk_0 (by decide) dX9_init_150 ?_
  show J 153 [(0, .ref 0)] [] 67 zrf69 zh20
  refine zv_aload_n X dX9_init_153 rfl rfl ?_
  refine zv_iconst (v := (0 : Int32)) X dX9_init_154 zic_0 ?_
  refine zv_putI X zf_RX9_95 zk_0 (by decide) dX9_init_155 ?_
  show J 158 [(0, .ref 0)] [] 67 zrf69 zh21
  refine zv_aload_n X dX9_init_158 rfl rfl ?_
  refine zv_iconst (v := (2 : Int32)) X dX9_init_159 zic_2 ?_
  refine zv_putI X zf_RX9_99 zk_0 (by decide) dX9_init_160 ?_
  show J 163 [(0, .ref 0)] [] 67 zrf69 zh22
  refine zv_aload_n X dX9_init_163 rfl rfl ?_
  refine zv_getR (a := 3) X zf_RX9_17 znt_a zk_0 (by decide) (by decide +kernel) dX9_init_164 ?_
  refine zv_bipush (v := (10 : Int32)) X dX9_init_167 zbp_10 ?_
  refine zv_callS (stk := [.int (10 : Int32), .ref 3]) (as := [.ref 3, .int (10 : Int32)]) (st := []) X zl_RX9_102 zm_J7_fill_53178 (k_J7_fill_53178_3 (d := d - 1) (N := 67) (rf := zrf69) (by decide) (Nat.zero_le _) (f_J7_fill_53178_3 (10 : Int32) zh22)) (by omega) rfl (Nat.le_of_ble_eq_true rfl) (by decide) rfl dX9_init_169 ?_
  show J 172 [(0, .ref 0)] [] 67 zrf69 zh23
  exact zv_retV X rfl rfl dX9_init_172
set_option maxRecDepth 100000 in
set_option maxHeartbeats 4000000 in
theorem kc_X10_init_67 {l : Launch} {D : va_G} {cy : Nat → ClassId} {S0 d : Nat} (hd : 1 ≤ d) : zCT l D cy S0 d yX10_init cX10_init 1 none [.ref 67] 68 zrf69 zh23 none 117 zrf118 zh39 := by
  refine zCT_of RX10 rfl zm_X10_init (by decide) (Nat.le_of_ble_eq_true rfl) (fun J X => ?_)
  show J 0 [(0, .ref 67)] [] 68 zrf69 zh23
  refine zv_aload_n X dX10_init_0 rfl rfl ?_
  refine zv_objInit X (by omega) zo_RX10_1 zo_1 zo_2 (Nat.le_of_ble_eq_true rfl) dX10_init_1 ?_
  refine zv_aload_n X dX10_init_4 rfl rfl ?_
  refine zv_bipush (v := (40 : Int32)) X dX10_init_5 zbp_40 ?_
  refine zv_newaI (n := 40) X zk_68 zl_68 rfl (by decide) (by decide) za_int rfl dX10_init_7 ?_
  show J 9 [(0, .ref 67)] [.ref 68, .ref 67] 69 zrf69 zh23
  refine zv_putF X zini_X10_init zf_RX10_7 (Or.inl ⟨_, rfl⟩) zk_67 (by decide) dX10_init_9 ?_
  show J 12 [(0, .ref 67)] [] 69 zrf70 zh23
  refine zv_aload_n X dX10_init_12 rfl rfl ?_
  refine zv_bipush (v := (40 : Int32)) X dX10_init_13 zbp_40 ?_
  refine zv_newaI (n := 40) X zk_69 zl_69 rfl (by decide) (by decide) za_int rfl dX10_init_15 ?_
  show J 17 [(0, .ref 67)] [.ref 69, .ref 67] 70 zrf70 zh23
  refine zv_putF X zini_X10_init zf_RX10_13 (Or.inl ⟨_, rfl⟩) zk_67 (by decide) dX10_init_17 ?_
  show J 20 [(0, .ref 67)] [] 70 zrf71 zh23
  refine zv_aload_n X dX10_init_20 rfl rfl ?_
  refine zv_bipush (v := (40 : Int32)) X dX10_init_21 zbp_40 ?_
  refine zv_newaI (n := 40) X zk_70 zl_70 rfl (by decide) (by decide) za_int rfl dX10_init_23 ?_
  show J 25 [(0, .ref 67)] [.ref 70, .ref 67] 71 zrf71 zh23
  refine zv_putF X zini_X10_init zf_RX10_16 (Or.inl ⟨_, rfl⟩) zk_67 (by decide) dX10_init_25 ?_
  show J 28 [(0, .ref 67)] [] 71 zrf72 zh23
  refine zv_aload_n X dX10_init_28 rfl rfl ?_
  refine zv_bipush (v := (40 : Int32)) X dX10_init_29 zbp_40 ?_
  refine zv_newaI (n := 40) X zk_71 zl_71 rfl (by decide) (by decide) za_int rfl dX10_init_31 ?_
  show J 33 [(0, .ref 67)] [.ref 71, .ref 67] 72 zrf72 zh23
  refine zv_putF X zini_X10_init zf_RX10_19 (Or.inl ⟨_, rfl⟩) zk_67 (by decide) dX10_init_33 ?_
  show J 36 [(0, .ref 67)] [] 72 zrf73 zh23
  refine zv_aload_n X dX10_init_36 rfl rfl ?_
  refine zv_bipush (v := (40 : Int32)) X dX10_init_37 zbp_40 ?_
  refine zv_newaI (n := 40) X zk_72 zl_72 rfl (by decide) (by decide) za_int rfl dX10_init_39 ?_
  show J 41 [(0, .ref 67)] [.ref 72, .ref 67] 73 zrf73 zh23
  refine zv_putF X zini_X10_init zf_RX10_22 (Or.inl ⟨_, rfl⟩) zk_67 (by decide) dX10_init_41 ?_
  show J 44 [(0, .ref 67)] [] 73 zrf74 zh23
  refine zv_aload_n X dX10_init_44 rfl rfl ?_
  refine zv_iconst (v := (5 : Int32)) X dX10_init_45 zic_5 ?_
  refine zv_newaI (n := 5) X zk_73 zl_73 rfl (by decide) (by decide) za_int rfl dX10_init_46 ?_
  show J 48 [(0, .ref 67)] [.ref 73, .ref 67] 74 zrf74 zh23
  refine zv_dup_r X dX10_init_48 ?_
  refine zv_iconst (v := (0 : Int32)) X dX10_init_49 zic_0 ?_
  refine zv_bipush (v := (60 : Int32)) X dX10_init_50 zbp_60 ?_
  refine zv_iast (h1 := zh24) X zk_73 zl_73 (by decide) dX10_init_52 (zui_ok (i := 0) (by decide) (by decide)) ?_
  show J 53 [(0, .ref 67)] [.ref 73, .ref 67] 74 zrf74 zh24
  refine zv_dup_r X dX10_init_53 ?_
  refine zv_iconst (v := (1 : Int32)) X dX10_init_54 zic_1 ?_
  refine zv_bipush (v := (60 : Int32)) X dX10_init_55 zbp_60 ?_
  refine zv_iast (h1 := zh25) X zk_73 zl_73 (by decide) dX10_init_57 (zui_ok (i := 1) (by decide) (by decide)) ?_
  show J 58 [(0, .ref 67)] [.ref 73, .ref 67] 74 zrf74 zh25
  refine zv_dup_r X dX10_init_58 ?_
  refine zv_iconst (v := (2 : Int32)) X dX10_init_59 zic_2 ?_
  refine zv_bipush (v := (60 : Int32)) X dX10_init_60 zbp_60 ?_
  refine zv_iast (h1 := zh26) X zk_73 zl_73 (by decide) dX10_init_62 (zui_ok (i := 2) (by decide) (by decide)) ?_
  show J 63 [(0, .ref 67)] [.ref 73, .ref 67] 74 zrf74 zh26
  refine zv_dup_r X dX10_init_63 ?_
  refine zv_iconst (v := (3 : Int32)) X dX10_init_64 zic_3 ?_
  refine zv_bipush (v := (60 : Int32)) X dX10_init_65 zbp_60 ?_
  refine zv_iast (h1 := zh27) X zk_73 zl_73 (by decide) dX10_init_67 (zui_ok (i := 3) (by decide) (by decide)) ?_
  show J 68 [(0, .ref 67)] [.ref 73, .ref 67] 74 zrf74 zh27
  refine zv_dup_r X dX10_init_68 ?_
  refine zv_iconst (v := (4 : Int32)) X dX10_init_69 zic_4 ?_
  refine zv_bipush (v := (60 : Int32)) X dX10_init_70 zbp_60 ?_
  refine zv_iast (h1 := zh28) X zk_73 zl_73 (by decide) dX10_init_72 (zui_ok (i := 4) (by decide) (by decide)) ?_
  show J 73 [(0, .ref 67)] [.ref 73, .ref 67] 74 zrf74 zh28
  refine zv_putF X zini_X10_init zf_RX10_25 (Or.inl ⟨_, rfl⟩) zk_67 (by decide) dX10_init_73 ?_
  show J 76 [(0, .ref 67)] [] 74 zrf75 zh28
  refine zv_aload_n X dX10_init_76 rfl rfl ?_
  refine zv_bipush (v := (20 : Int32)) X dX10_init_77 zbp_20 ?_
  refine zv_newaI (n := 20) X zk_74 zl_74 rfl (by decide) (by decide) za_int rfl dX10_init_79 ?_
  show J 81 [(0, .ref 67)] [.ref 74, .ref 67] 75 zrf75 zh28
  refine zv_putF X zini_X10_init zf_RX10_28 (Or.inl ⟨_, rfl⟩) zk_67 (by decide) dX10_init_81 ?_
  show J 84 [(0, .ref 67)] [] 75 zrf76 zh28
  refine zv_aload_n X dX10_init_84 rfl rfl ?_
  refine zv_bipush (v := (20 : Int32)) X dX10_init_85 zbp_20 ?_
  refine zv_newaI (n := 20) X zk_75 zl_75 rfl (by decide) (by decide) za_int rfl dX10_init_87 ?_
  show J 89 [(0, .ref 67)] [.ref 75, .ref 67] 76 zrf76 zh28
  refine zv_putF X zini_X10_init zf_RX10_31 (Or.inl ⟨_, rfl⟩) zk_67 (by decide) dX10_init_89 ?_
  show J 92 [(0, .ref 67)] [] 76 zrf77 zh28
  refine zv_aload_n X dX10_init_92 rfl rfl ?_
  refine zv_bipush (v := (20 : Int32)) X dX10_init_93 zbp_20 ?_
  refine zv_newaI (n := 20) X zk_76 zl_76 rfl (by decide) (by decide) za_int rfl dX10_init_95 ?_
  show J 97 [(0, .ref 67)] [.ref 76, .ref 67] 77 zrf77 zh28
  refine zv_putF X zini_X10_init zf_RX10_34 (Or.inl ⟨_, rfl⟩) zk_67 (by decide) dX10_init_97 ?_
  show J 100 [(0, .ref 67)] [] 77 zrf78 zh28
  refine zv_aload_n X dX10_init_100 rfl rfl ?_
  refine zv_bipush (v := (20 : Int32)) X dX10_init_101 zbp_20 ?_
  refine zv_newaI (n := 20) X zk_77 zl_77 rfl (by decide) (by decide) za_int rfl dX10_init_103 ?_
  show J 105 [(0, .ref 67)] [.ref 77, .ref 67] 78 zrf78 zh28
  refine zv_putF X zini_X10_init zf_RX10_37 (Or.inl ⟨_, rfl⟩) zk_67 (by decide) dX10_init_105 ?_
  show J 108 [(0, .ref 67)] [] 78 zrf79 zh28
  refine zv_aload_n X dX10_init_108 rfl rfl ?_
  refine zv_bipush (v := (20 : Int32)) X dX10_init_109 zbp_20 ?_
  refine zv_newaI (n := 20) X zk_78 zl_78 rfl (by decide) (by decide) za_int rfl dX10_init_111 ?_
  show J 113 [(0, .ref 67)] [.ref 78, .ref 67] 79 zrf79 zh28
  refine zv_putF X zini_X10_init zf_RX10_40 (Or.inl ⟨_, rfl⟩) zk_67 (by decide) dX10_init_113 ?_
  show J 116 [(0, .ref 67)] [] 79 zrf80 zh28
  refine zv_aload_n X dX10_init_116 rfl rfl ?_
  refine zv_bipush (v := (20 : Int32)) X dX10_init_117 zbp_20 ?_
  refine zv_newaZ (n := 20) X zk_79 zl_79 rfl (by decide) (by decide) za_boolean rfl dX10_init_119 ?_
  show J 121 [(0, .ref 67)] [.ref 79, .ref 67] 80 zrf80 zh28
  refine zv_putF X zini_X10_init zf_RX10_43 (Or.inl ⟨_, rfl⟩) zk_67 (by decide) dX10_init_121 ?_
  show J 124 [(0, .ref 67)] [] 80 zrf81 zh28
  refine zv_aload_n X dX10_init_124 rfl rfl ?_
  refine zv_bipush (v := (20 : Int32)) X dX10_init_125 zbp_20 ?_
  refine zv_newaI (n := 20) X zk_80 zl_80 rfl (by decide) (by decide) za_int rfl dX10_init_127 ?_
  show J 129 [(0, .ref 67)] [.ref 80, .ref 67] 81 zrf81 zh28
  refine zv_putF X zini_X10_init zf_RX10_47 (Or.inl ⟨_, rfl⟩) zk_67 (by decide) dX10_init_129 ?_
  show J 132 [(0, .ref 67)] [] 81 zrf82 zh28
  refine zv_aload_n X dX10_init_132 rfl rfl ?_
  refine zv_bipush (v := (50 : Int32)) X dX10_init_133 zbp_50 ?_
  refine zv_newaZ (n := 50) X zk_81 zl_81 rfl (by decide) (by decide) za_boolean rfl dX10_init_135 ?_
  show J 137 [(0, .ref 67)] [.ref 81, .ref 67] 82 zrf82 zh28
  refine zv_putF X zini_X10_init zf_RX10_50 (Or.inl ⟨_, rfl⟩) zk_67 (by decide) dX10_init_137 ?_
  show J 140 [(0, .ref 67)] [] 82 zrf83 zh28
  refine zv_aload_n X dX10_init_140 rfl rfl ?_
  refine zv_bipush (v := (80 : Int32)) X dX10_init_141 zbp_80 ?_
  refine zv_newaI (n := 80) X zk_82 zl_82 rfl (by decide) (by decide) za_int rfl dX10_init_143 ?_
  show J 145 [(0, .ref 67)] [.ref 82, .ref 67] 83 zrf83 zh28
  refine zv_putF X zini_X10_init zf_RX10_53 (Or.inl ⟨_, rfl⟩) zk_67 (by decide) dX10_init_145 ?_
  show J 148 [(0, .ref 67)] [] 83 zrf84 zh28
  refine zv_aload_n X dX10_init_148 rfl rfl ?_
  refine zv_bipush (v := (80 : Int32)) X dX10_init_149 zbp_80 ?_
  refine zv_newaI (n := 80) X zk_83 zl_83 rfl (by decide) (by decide) za_int rfl dX10_init_151 ?_
  show J 153 [(0, .ref 67)] [.ref 83, .ref 67] 84 zrf84 zh28
  refine zv_putF X zini_X10_init zf_RX10_56 (Or.inl ⟨_, rfl⟩) zk_67 (by decide) dX10_init_153 ?_
  show J 156 [(0, .ref 67)] [] 84 zrf85 zh28
  refine zv_aload_n X dX10_init_156 rfl rfl ?_
  refine zv_bipush (v := (80 : Int32)) X dX10_init_157 zbp_80 ?_
  refine zv_newaI (n := 80) X zk_84 zl_84 rfl (by decide) (by decide) za_int rfl dX10_init_159 ?_
  show J 161 [(0, .ref 67)] [.ref 84, .ref 67] 85 zrf85 zh28
  refine zv_putF X zini_X10_init zf_RX10_59 (Or.inl ⟨_, rfl⟩) zk_67 (by decide) dX10_init_161 ?_
  show J 164 [(0, .ref 67)] [] 85 zrf86 zh28
  refine zv_aload_n X dX10_init_164 rfl rfl ?_
  refine zv_bipush (v := (80 : Int32)) X dX10_init_165 zbp_80 ?_
  refine zv_newaI (n := 80) X zk_85 zl_85 rfl (by decide) (by decide) za_int rfl dX10_init_167 ?_
  show J 169 [(0, .ref 67)] [.ref 85, .ref 67] 86 zrf86 zh28
  refine zv_putF X zini_X10_init zf_RX10_62 (Or.inl ⟨_, rfl⟩) zk_67 (by decide) dX10_init_169 ?_
  show J 172 [(0, .ref 67)] [] 86 zrf87 zh28
  refine zv_aload_n X dX10_init_172 rfl rfl ?_
  refine zv_bipush (v := (80 : Int32)) X dX10_init_173 zbp_80 ?_
  refine zv_newaI (n := 80) X zk_86 zl_86 rfl (by decide) (by decide) za_int rfl dX10_init_175 ?_
  show J 177 [(0, .ref 67)] [.ref 86, .ref 67] 87 zrf87 zh28
  refine zv_putF X zini_X10_init zf_RX10_65 (Or.inl ⟨_, rfl⟩) zk_67 (by decide) dX10_init_177 ?_
  show J 180 [(0, .ref 67)] [] 87 zrf88 zh28
  refine zv_aload_n X dX10_init_180 rfl rfl ?_
  refine zv_sipush (v := (3200 : Int32)) X dX10_init_181 zsp_3200 ?_
  refine zv_newaI (n := 3200) X zk_87 zl_87 rfl (by decide) (by decide) za_int rfl dX10_init_184 ?_
  show J 186 [(0, .ref 67)] [.ref 87, .ref 67] 88 zrf88 zh28
  refine zv_putF X zini_X10_init zf_RX10_68 (Or.inl ⟨_, rfl⟩) zk_67 (by decide) dX10_init_186 ?_
  show J 189 [(0, .ref 67)] [] 88 zrf89 zh28
  refine zv_aload_n X dX10_init_189 rfl rfl ?_
  refine zv_bipush (v := (8 : Int32)) X dX10_init_190 zbp_8 ?_
  refine zv_newaI (n := 8) X zk_88 zl_88 rfl (by decide) (by decide) za_int rfl dX10_init_192 ?_
  show J 194 [(0, .ref 67)] [.ref 88, .ref 67] 89 zrf89 zh28
  refine zv_putF X zini_X10_init zf_RX10_71 (Or.inl ⟨_, rfl⟩) zk_67 (by decide) dX10_init_194 ?_
  show J 197 [(0, .ref 67)] [] 89 zrf90 zh28
  refine zv_aload_n X dX10_init_197 rfl rfl ?_
  refine zv_iconst (v := (5 : Int32)) X dX10_init_198 zic_5 ?_
  refine zv_newaI (n := 5) X zk_89 zl_89 rfl (by decide) (by decide) za_int rfl dX10_init_199 ?_
  show J 201 [(0, .ref 67)] [.ref 89, .ref 67] 90 zrf90 zh28
  refine zv_putF X zini_X10_init zf_RX10_74 (Or.inl ⟨_, rfl⟩) zk_67 (by decide) dX10_init_201 ?_
  show J 204 [(0, .ref 67)] [] 90 zrf91 zh28
  refine zv_aload_n X dX10_init_204 rfl rfl ?_
  refine zv_bipush (v := (10 : Int32)) X dX10_init_205 zbp_10 ?_
  refine zv_newaI (n := 10) X zk_90 zl_90 rfl (by decide) (by decide) za_int rfl dX10_init_207 ?_
  show J 209 [(0, .ref 67)] [.ref 90, .ref 67] 91 zrf91 zh28
  refine zv_putF X zini_X10_init zf_RX10_77 (Or.inl ⟨_, rfl⟩) zk_67 (by decide) dX10_init_209 ?_
  show J 212 [(0, .ref 67)] [] 91 zrf92 zh28
  refine zv_aload_n X dX10_init_212 rfl rfl ?_
  refine zv_bipush (v := (40 : Int32)) X dX10_init_213 zbp_40 ?_
  refine zv_newaI (n := 40) X zk_91 zl_91 rfl (by decide) (by decide) za_int rfl dX10_init_215 ?_
  show J 217 [(0, .ref 67)] [.ref 91, .ref 67] 92 zrf92 zh28
  refine zv_putF X zini_X10_init zf_RX10_80 (Or.inl ⟨_, rfl⟩) zk_67 (by decide) dX10_init_217 ?_
  show J 220 [(0, .ref 67)] [] 92 zrf93 zh28
  refine zv_aload_n X dX10_init_220 rfl rfl ?_
  refine zv_iconst (v := (4 : Int32)) X dX10_init_221 zic_4 ?_
  refine zv_newaI (n := 4) X zk_92 zl_92 rfl (by decide) (by decide) za_int rfl dX10_init_222 ?_
  show J 224 [(0, .ref 67)] [.ref 92, .ref 67] 93 zrf93 zh28
  refine zv_dup_r X dX10_init_224 ?_
  refine zv_iconst (v := (0 : Int32)) X dX10_init_225 zic_0 ?_
  refine zv_bipush (v := (10 : Int32)) X dX10_init_226 zbp_10 ?_
  refine zv_iast (h1 := zh29) X zk_92 zl_92 (by decide) dX10_init_228 (zui_ok (i := 0) (by decide) (by decide)) ?_
  show J 229 [(0, .ref 67)] [.ref 92, .ref 67] 93 zrf93 zh29
  refine zv_dup_r X dX10_init_229 ?_
  refine zv_iconst (v := (1 : Int32)) X dX10_init_230 zic_1 ?_
  refine zv_bipush (v := (10 : Int32)) X dX10_init_231 zbp_10 ?_
  refine zv_iast (h1 := zh30) X zk_92 zl_92 (by decide) dX10_init_233 (zui_ok (i := 1) (by decide) (by decide)) ?_
  show J 234 [(0, .ref 67)] [.ref 92, .ref 67] 93 zrf93 zh30
  refine zv_dup_r X dX10_init_234 ?_
  refine zv_iconst (v := (2 : Int32)) X dX10_init_235 zic_2 ?_
  refine zv_bipush (v := (10 : Int32)) X dX10_init_236 zbp_10 ?_
  refine zv_iast (h1 := zh31) X zk_92 zl_92 (by decide) dX10_init_238 (zui_ok (i := 2) (by decide) (by decide)) ?_
  show J 239 [(0, .ref 67)] [.ref 92, .ref 67] 93 zrf93 zh31
  refine zv_dup_r X dX10_init_239 ?_
  refine zv_iconst (v := (3 : Int32)) X dX10_init_240 zic_3 ?_
  refine zv_bipush (v := (10 : Int32)) X dX10_init_241 zbp_10 ?_
  refine zv_iast (h1 := zh32) X zk_92 zl_92 (by decide) dX10_init_243 (zui_ok (i := 3) (by decide) (by decide)) ?_
  show J 244 [(0, .ref 67)] [.ref 92, .ref 67] 93 zrf93 zh32
  refine zv_putF X zini_X10_init zf_RX10_83 (Or.inl ⟨_, rfl⟩) zk_67 (by decide) dX10_init_244 ?_
  show J 247 [(0, .ref 67)] [] 93 zrf94 zh32
  refine zv_aload_n X dX10_init_247 rfl rfl ?_
  refine zv_iconst (v := (2 : Int32)) X dX10_init_248 zic_2 ?_
  refine zv_putI X zf_RX10_86 zk_67 (by decide) dX10_init_249 ?_
  show J 252 [(0, .ref 67)] [] 93 zrf94 zh33
  refine zv_aload_n X dX10_init_252 rfl rfl ?_
  refine zv_bipush (v := (6 : Int32)) X dX10_init_253 zbp_6 ?_
  refine zv_newaI (n := 6) X zk_93 zl_93 rfl (by decide) (by decide) za_int rfl dX10_init_255 ?_
  show J 257 [(0, .ref 67)] [.ref 93, .ref 67] 94 zrf94 zh33
  refine zv_putF X zini_X10_init zf_RX10_90 (Or.inl ⟨_, rfl⟩) zk_67 (by decide) dX10_init_257 ?_
  show J 260 [(0, .ref 67)] [] 94 zrf95 zh33
  refine zv_aload_n X dX10_init_260 rfl rfl ?_
  refine zv_bipush (v := (36 : Int32)) X dX10_init_261 zbp_36 ?_
  refine zv_newaI (n := 36) X zk_94 zl_94 rfl (by decide) (by decide) za_int rfl dX10_init_263 ?_
  show J 265 [(0, .ref 67)] [.ref 94, .ref 67] 95 zrf95 zh33
  refine zv_putF X zini_X10_init zf_RX10_93 (Or.inl ⟨_, rfl⟩) zk_67 (by decide) dX10_init_265 ?_
  show J 268 [(0, .ref 67)] [] 95 zrf96 zh33
  refine zv_aload_n X dX10_init_268 rfl rfl ?_
  refine zv_bipush (v := (7 : Int32)) X dX10_init_269 zbp_7 ?_
  refine zv_newaI (n := 7) X zk_95 zl_95 rfl (by decide) (by decide) za_int rfl dX10_init_271 ?_
  show J 273 [(0, .ref 67)] [.ref 95, .ref 67] 96 zrf96 zh33
  refine zv_putF X zini_X10_init zf_RX10_96 (Or.inl ⟨_, rfl⟩) zk_67 (by decide) dX10_init_273 ?_
  show J 276 [(0, .ref 67)] [] 96 zrf97 zh33
  refine zv_aload_n X dX10_init_276 rfl rfl ?_
  refine zv_bipush (v := (6 : Int32)) X dX10_init_277 zbp_6 ?_
  refine zv_newaI (n := 6) X zk_96 zl_96 rfl (by decide) (by decide) za_int rfl dX10_init_279 ?_
  show J 281 [(0, .ref 67)] [.ref 96, .ref 67] 97 zrf97 zh33
  refine zv_putF X zini_X10_init zf_RX10_99 (Or.inl ⟨_, rfl⟩) zk_67 (by decide) dX10_init_281 ?_
  show J 284 [(0, .ref 67)] [] 97 zrf98 zh33
  refine zv_aload_n X dX10_init_284 rfl rfl ?_
  refine zv_bipush (v := (6 : Int32)) X dX10_init_285 zbp_6 ?_
  refine zv_newaI (n := 6) X zk_97 zl_97 rfl (by decide) (by decide) za_int rfl dX10_init_287 ?_
  show J 289 [(0, .ref 67)] [.ref 97, .ref 67] 98 zrf98 zh33
  refine zv_putF X zini_X10_init zf_RX10_102 (Or.inl ⟨_, rfl⟩) zk_67 (by decide) dX10_init_289 ?_
  show J 292 [(0, .ref 67)] [] 98 zrf99 zh33
  refine zv_aload_n X dX10_init_292 rfl rfl ?_
  refine zv_bipush (v := (7 : Int32)) X dX10_init_293 zbp_7 ?_
  refine zv_newaI (n := 7) X zk_98 zl_98 rfl (by decide) (by decide) za_int rfl dX10_init_295 ?_
  show J 297 [(0, .ref 67)] [.ref 98, .ref 67] 99 zrf99 zh33
  refine zv_putF X zini_X10_init zf_RX10_105 (Or.inl ⟨_, rfl⟩) zk_67 (by decide) dX10_init_297 ?_
  show J 300 [(0, .ref 67)] [] 99 zrf100 zh33
  refine zv_aload_n X dX10_init_300 rfl rfl ?_
  refine zv_bipush (v := (15 : Int32)) X dX10_init_301 zbp_15 ?_
  refine zv_newaI (n := 15) X zk_99 zl_99 rfl (by decide) (by decide) za_int rfl dX10_init_303 ?_
  show J 305 [(0, .ref 67)] [.ref 99, .ref 67] 100 zrf100 zh33
  refine zv_putF X zini_X10_init zf_RX10_108 (Or.inl ⟨_, rfl⟩) zk_67 (by decide) dX10_init_305 ?_
  show J 308 [(0, .ref 67)] [] 100 zrf101 zh33
  refine zv_aload_n X dX10_init_308 rfl rfl ?_
  refine zv_bipush (v := (25 : Int32)) X dX10_init_309 zbp_25 ?_
  refine zv_newaL (n := 25) X zk_100 zl_100 rfl (by decide) (by decide) za_long rfl dX10_init_311 ?_
  show J 313 [(0, .ref 67)] [.ref 100, .ref 67] 101 zrf101 zh33
  refine zv_putF X zini_X10_init zf_RX10_111 (Or.inl ⟨_, rfl⟩) zk_67 (by decide) dX10_init_313 ?_
  show J 316 [(0, .ref 67)] [] 101 zrf102 zh33
  refine zv_aload_n X dX10_init_316 rfl rfl ?_
  refine zv_iconst (v := (5 : Int32)) X dX10_init_317 zic_5 ?_
  refine zv_newaL (n := 5) X zk_101 zl_101 rfl (by decide) (by decide) za_long rfl dX10_init_318 ?_
  show J 320 [(0, .ref 67)] [.ref 101, .ref 67] 102 zrf102 zh33
  refine zv_putF X zini_X10_init zf_RX10_115 (Or.inl ⟨_, rfl⟩) zk_67 (by decide) dX10_init_320 ?_
  show J 323 [(0, .ref 67)] [] 102 zrf103 zh33
  refine zv_aload_n X dX10_init_323 rfl rfl ?_
  refine zv_iconst (v := (5 : Int32)) X dX10_init_324 zic_5 ?_
  refine zv_newaI (n := 5) X zk_102 zl_102 rfl (by decide) (by decide) za_int rfl dX10_init_325 ?_
  show J 327 [(0, .ref 67)] [.ref 102, .ref 67] 103 zrf103 zh33
  refine zv_putF X zini_X10_init zf_RX10_118 (Or.inl ⟨_, rfl⟩) zk_67 (by decide) dX10_init_327 ?_
  show J 330 [(0, .ref 67)] [] 103 zrf104 zh33
  refine zv_aload_n X dX10_init_330 rfl rfl ?_
  refine zv_iconst (v := (4 : Int32)) X dX10_init_331 zic_4 ?_
  refine zv_newaI (n := 4) X zk_103 zl_103 rfl (by decide) (by decide) za_int rfl dX10_init_332 ?_
  show J 334 [(0, .ref 67)] [.ref 103, .ref 67] 104 zrf104 zh33
  refine zv_putF X zini_X10_init zf_RX10_121 (Or.inl ⟨_, rfl⟩) zk_67 (by decide) dX10_init_334 ?_
  show J 337 [(0, .ref 67)] [] 104 zrf105 zh33
  refine zv_aload_n X dX10_init_337 rfl rfl ?_
  refine zv_iconst (v := (4 : Int32)) X dX10_init_338 zic_4 ?_
  refine zv_newaI (n := 4) X zk_104 zl_104 rfl (by decide) (by decide) za_int rfl dX10_init_339 ?_
  show J 341 [(0, .ref 67)] [.ref 104, .ref 67] 105 zrf105 zh33
  refine zv_putF X zini_X10_init zf_RX10_124 (Or.inl ⟨_, rfl⟩) zk_67 (by decide) dX10_init_341 ?_
  show J 344 [(0, .ref 67)] [] 105 zrf106 zh33
  refine zv_aload_n X dX10_init_344 rfl rfl ?_
  refine zv_iconst (v := (5 : Int32)) X dX10_init_345 zic_5 ?_
  refine zv_newaI (n := 5) X zk_105 zl_105 rfl (by decide) (by decide) za_int rfl dX10_init_346 ?_
  show J 348 [(0, .ref 67)] [.ref 105, .ref 67] 106 zrf106 zh33
  refine zv_putF X zini_X10_init zf_RX10_127 (Or.inl ⟨_, rfl⟩) zk_67 (by decide) dX10_init_348 ?_
  show J 351 [(0, .ref 67)] [] 106 zrf107 zh33
  refine zv_aload_n X dX10_init_351 rfl rfl ?_
  refine zv_bipush (v := (20 : Int32)) X dX10_init_352 zbp_20 ?_
  refine zv_newaI (n := 20) X zk_106 zl_106 rfl (by decide) (by decide) za_int rfl dX10_init_354 ?_
  show J 356 [(0, .ref 67)] [.ref 106, .ref 67] 107 zrf107 zh33
  refine zv_putF X zini_X10_init zf_RX10_130 (Or.inl ⟨_, rfl⟩) zk_67 (by decide) dX10_init_356 ?_
  show J 359 [(0, .ref 67)] [] 107 zrf108 zh33
  refine zv_aload_n X dX10_init_359 rfl rfl ?_
  refine zv_sipush (v := (160 : Int32)) X dX10_init_360 zsp_160 ?_
  refine zv_newaI (n := 160) X zk_107 zl_107 rfl (by decide) (by decide) za_int rfl dX10_init_363 ?_
  show J 365 [(0, .ref 67)] [.ref 107, .ref 67] 108 zrf108 zh33
  refine zv_putF X zini_X10_init zf_RX10_133 (Or.inl ⟨_, rfl⟩) zk_67 (by decide) dX10_init_365 ?_
  show J 368 [(0, .ref 67)] [] 108 zrf109 zh33
  refine zv_aload_n X dX10_init_368 rfl rfl ?_
  refine zv_sipush (v := (160 : Int32)) X dX10_init_369 zsp_160 ?_
  refine zv_newaI (n := 160) X zk_108 zl_108 rfl (by decide) (by decide) za_int rfl dX10_init_372 ?_
  show J 374 [(0, .ref 67)] [.ref 108, .ref 67] 109 zrf109 zh33
  refine zv_putF X zini_X10_init zf_RX10_136 (Or.inl ⟨_, rfl⟩) zk_67 (by decide) dX10_init_374 ?_
  show J 377 [(0, .ref 67)] [] 109 zrf110 zh33
  refine zv_aload_n X dX10_init_377 rfl rfl ?_
  refine zv_bipush (v := (20 : Int32)) X dX10_init_378 zbp_20 ?_
  refine zv_newaI (n := 20) X zk_109 zl_109 rfl (by decide) (by decide) za_int rfl dX10_init_380 ?_
  show J 382 [(0, .ref 67)] [.ref 109, .ref 67] 110 zrf110 zh33
  refine zv_putF X zini_X10_init zf_RX10_139 (Or.inl ⟨_, rfl⟩) zk_67 (by decide) dX10_init_382 ?_
  show J 385 [(0, .ref 67)] [] 110 zrf111 zh33
  refine zv_aload_n X dX10_init_385 rfl rfl ?_
  refine zv_bipush (v := (20 : Int32)) X dX10_init_386 zbp_20 ?_
  refine zv_newaI (n := 20) X zk_110 zl_110 rfl (by decide) (by decide) za_int rfl dX10_init_388 ?_
  show J 390 [(0, .ref 67)] [.ref 110, .ref 67] 111 zrf111 zh33
  refine zv_putF X zini_X10_init zf_RX10_142 (Or.inl ⟨_, rfl⟩) zk_67 (by decide) dX10_init_390 ?_
  show J 393 [(0, .ref 67)] [] 111 zrf112 zh33
  refine zv_aload_n X dX10_init_393 rfl rfl ?_
  refine zv_bipush (v := (20 : Int32)) X dX10_init_394 zbp_20 ?_
  refine zv_newaI (n := 20) X zk_111 zl_111 rfl (by decide) (by decide) za_int rfl dX10_init_396 ?_
  show J 398 [(0, .ref 67)] [.ref 111, .ref 67] 112 zrf112 zh33
  refine zv_putF X zini_X10_init zf_RX10_145 (Or.inl ⟨_, rfl⟩) zk_67 (by decide) dX10_init_398 ?_
  show J 401 [(0, .ref 67)] [] 112 zrf113 zh33
  refine zv_aload_n X dX10_init_401 rfl rfl ?_
  refine zv_bipush (v := (20 : Int32)) X dX10_init_402 zbp_20 ?_
  refine zv_newaI (n := 20) X zk_112 zl_112 rfl (by decide) (by decide) za_int rfl dX10_init_404 ?_
  show J 406 [(0, .ref 67)] [.ref 112, .ref 67] 113 zrf113 zh33
  refine zv_putF X zini_X10_init zf_RX10_148 (Or.inl ⟨_, rfl⟩) zk_67 (by decide) dX10_init_406 ?_
  show J 409 [(0, .ref 67)] [] 113 zrf114 zh33
  refine zv_aload_n X dX10_init_409 rfl rfl ?_
  refine zv_bipush (v := (6 : Int32)) X dX10_init_410 zbp_6 ?_
  refine zv_newaI (n := 6) X zk_113 zl_113 rfl (by decide) (by decide) za_int rfl dX10_init_412 ?_
  show J 414 [(0, .ref 67)] [.ref 113, .ref 67] 114 zrf114 zh33
  refine zv_dup_r X dX10_init_414 ?_
  refine zv_iconst (v := (0 : Int32)) X dX10_init_415 zic_0 ?_
  refine zv_bipush (v := (12 : Int32)) X dX10_init_416 zbp_12 ?_
  refine zv_iast (h1 := zh34) X zk_113 zl_113 (by decide) dX10_init_418 (zui_ok (i := 0) (by decide) (by decide)) ?_
  show J 419 [(0, .ref 67)] [.ref 113, .ref 67] 114 zrf114 zh34
  refine zv_dup_r X dX10_init_419 ?_
  refine zv_iconst (v := (1 : Int32)) X dX10_init_420 zic_1 ?_
  refine zv_bipush (v := (12 : Int32)) X dX10_init_421 zbp_12 ?_
  refine zv_iast (h1 := zh35) X zk_113 zl_113 (by decide) dX10_init_423 (zui_ok (i := 1) (by decide) (by decide)) ?_
  show J 424 [(0, .ref 67)] [.ref 113, .ref 67] 114 zrf114 zh35
  refine zv_dup_r X dX10_init_424 ?_
  refine zv_iconst (v := (2 : Int32)) X dX10_init_425 zic_2 ?_
  refine zv_bipush (v := (12 : Int32)) X dX10_init_426 zbp_12 ?_
  refine zv_iast (h1 := zh36) X zk_113 zl_113 (by decide) dX10_init_428 (zui_ok (i := 2) (by decide) (by decide)) ?_
  show J 429 [(0, .ref 67)] [.ref 113, .ref 67] 114 zrf114 zh36
  refine zv_dup_r X dX10_init_429 ?_
  refine zv_iconst (v := (3 : Int32)) X dX10_init_430 zic_3 ?_
  refine zv_bipush (v := (12 : Int32)) X dX10_init_431 zbp_12 ?_
  refine zv_iast (h1 := zh37) X zk_113 zl_113 (by decide) dX10_init_433 (zui_ok (i := 3) (by decide) (by decide)) ?_
  show J 434 [(0, .ref 67)] [.ref 113, .ref 67] 114 zrf114 zh37
  refine zv_dup_r X dX10_init_434 ?_
  refine zv_iconst (v := (4 : Int32)) X dX10_init_435 zic_4 ?_
  refine zv_bipush (v := (12 : Int32)) X dX10_init_436 zbp_12 ?_
  refine zv_iast (h1 := zh38) X zk_113 zl_113 (by decide) dX10_init_438 (zui_ok (i := 4) (by decide) (by decide)) ?_
  show J 439 [(0, .ref 67)] [.ref 113, .ref 67] 114 zrf114 zh38
  refine zv_dup_r X dX10_init_439 ?_
  refine zv_iconst (v := (5 : Int32)) X dX10_init_440 zic_5 ?_
  refine zv_bipush (v := (12 : Int32)) X dX10_init_441 zbp_12 ?_
  refine zv_iast (h1 := zh39) X zk_113 zl_113 (by decide) dX10_init_443 (zui_ok (i := 5) (by decide) (by decide)) ?_
  show J 444 [(0, .ref 67)] [.ref 113, .ref 67] 114 zrf114 zh39
  refine zv_putF X zini_X10_init zf_RX10_151 (Or.inl ⟨_, rfl⟩) zk_67 (by decide) dX10_init_444 ?_
  show J 447 [(0, .ref 67)] [] 114 zrf115 zh39
  refine zv_aload_n X dX10_init_447 rfl rfl ?_
  refine zv_bipush (v := (72 : Int32)) X dX10_init_448 zbp_72 ?_
  refine zv_newaI (n := 72) X zk_114 zl_114 rfl (by decide) (by decide) za_int rfl dX10_init_450 ?_
  show J 452 [(0, .ref 67)] [.ref 114, .ref 67] 115 zrf115 zh39
  refine zv_putF X zini_X10_init zf_RX10_154 (Or.inl ⟨_, rfl⟩) zk_67 (by decide) dX10_init_452 ?_
  show J 455 [(0, .ref 67)] [] 115 zrf116 zh39
  refine zv_aload_n X dX10_init_455 rfl rfl ?_
  refine zv_bipush (v := (6 : Int32)) X dX10_init_456 zbp_6 ?_
  refine zv_newaI (n := 6) X zk_115 zl_115 rfl (by decide) (by decide) za_int rfl dX10_init_458 ?_
  show J 460 [(0, .ref 67)] [.ref 115, .ref 67] 116 zrf116 zh39
  refine zv_putF X zini_X10_init zf_RX10_157 (Or.inl ⟨_, rfl⟩) zk_67 (by decide) dX10_init_460 ?_
  show J 463 [(0, .ref 67)] [] 116 zrf117 zh39
  refine zv_aload_n X dX10_init_463 rfl rfl ?_
  refine zv_bipush (v := (6 : Int32)) X dX10_init_464 zbp_6 ?_
  refine zv_newaI (n := 6) X zk_116 zl_116 rfl (by decide) (by decide) za_int rfl dX10_init_466 ?_
  show J 468 [(0, .ref 67)] [.ref 116, .ref 67] 117 zrf117 zh39
  refine zv_putF X zini_X10_init zf_RX10_160 (Or.inl ⟨_, rfl⟩) zk_67 (by decide) dX10_init_468 ?_
  show J 471 [(0, .ref 67)] [] 117 zrf118 zh39
  exact zv_retV X rfl rfl dX10_init_471

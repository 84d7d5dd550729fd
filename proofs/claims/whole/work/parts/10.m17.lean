-- X7_waysNoGreater
def s_X7_waysNoGreater_L48 (k18 : Int64 → Int32 → Int32 → zHp → Option (Int32 × zHp)) (a1 : Int64) (a3 : Int32) (a4 : Int32) (h : zHp) : Option (Int32 × zHp) :=
  k18 a1 a3 (a4 + (1 : Int32)) h
def s_X7_waysNoGreater_L18 : Nat → Int64 → Int32 → Int32 → zHp → Option (Int32 × zHp)
  | 0, _, _, _, _ => none
  | f + 1, a1, a3, a4, h =>
  if (720 : Int32) ≤ a4 then
    some (a3, h)
  else
    (s_X7_deal a4 h).bind fun q2 =>
    (s_X7_effectBy_64 q2).bind fun q3 =>
    if a1 < q3.1 then
      s_X7_waysNoGreater_L48 (s_X7_waysNoGreater_L18 f) a1 a3 a4 q3.2
    else
      s_X7_waysNoGreater_L48 (s_X7_waysNoGreater_L18 f) a1 (a3 + (1 : Int32)) a4 q3.2
def s_X7_waysNoGreater  (h : zHp) : Option (Int32 × zHp) :=
  (s_X7_fillRises h).bind fun q1 =>
  (s_X7_effectBy_60 q1).bind fun q2 =>
  s_X7_waysNoGreater_L18 zFU q2.1 (0 : Int32) (0 : Int32) q2.2
set_option maxRecDepth 100000 in
set_option maxHeartbeats 4000000 in
theorem k_X7_waysNoGreater_L48 {l : Launch} {D : va_G} {cy : Nat → ClassId} {S0 d : Nat} {J : zJ} (q : (Int32 × zHp)) (hd : 2 ≤ d) (X : zOK l D cy S0 d RX7 cX7_waysNoGreater 5 (yX7_waysNoGreater.name == "<init>") 117 117 (some .int) (zRT 117 zRF (some (.int q.1)) q.2) J) {k18 : Int64 → Int32 → Int32 → zHp → Option (Int32 × zHp)} (hk18 : ∀ (a1 : Int64) (a3 : Int32) (a4 : Int32) (h : zHp), k18 a1 a3 a4 h = some q → J 18 [(0, .ref 59), (1, .long a1), (3, .int a3), (4, .int a4)] [] 117 zRF h) : ∀ (a1 : Int64) (a3 : Int32) (a4 : Int32) (h : zHp), s_X7_waysNoGreater_L48 k18 a1 a3 a4 h = some q → J 48 [(0, .ref 59), (1, .long a1), (3, .int a3), (4, .int a4)] [] 117 zRF h := by
  intro a1 a3 a4 h e
  unfold s_X7_waysNoGreater_L48 at e
  refine zv_iinc (k := 3) (v := a4 + (1 : Int32)) (lv' := [(4, .int (a4 + (1 : Int32))), (0, .ref 59), (1, .long a1), (3, .int a3)]) X dX7_waysNoGreater_48 rfl rfl (Nat.le_of_ble_eq_true rfl) rfl ?_
  refine zv_goto (tgt := 18) X dX7_waysNoGreater_51 (by decide) ?_
  exact zv_pick X [1, 2, 3, 0] rfl (hk18 _ _ _ _ e)
set_option maxRecDepth 100000 in
set_option maxHeartbeats 4000000 in
theorem k_X7_waysNoGreater_L18 {l : Launch} {D : va_G} {cy : Nat → ClassId} {S0 d : Nat} {J : zJ} (q : (Int32 × zHp)) (hd : 2 ≤ d) (X : zOK l D cy S0 d RX7 cX7_waysNoGreater 5 (yX7_waysNoGreater.name == "<init>") 117 117 (some .int) (zRT 117 zRF (some (.int q.1)) q.2) J) : ∀ (f : Nat) (a1 : Int64) (a3 : Int32) (a4 : Int32) (h : zHp), s_X7_waysNoGreater_L18 f a1 a3 a4 h = some q → J 18 [(0, .ref 59), (1, .long a1), (3, .int a3), (4, .int a4)] [] 117 zRF h := by
  intro f
  induction f with
  | zero => intro _ _ _ h e; exact absurd e (fun z => by cases z)
  | succ f ih =>
    intro a1 a3 a4 h e
    rw [s_X7_waysNoGreater_L18] at e
    refine zv_iload X dX7_waysNoGreater_18 rfl ?_
    refine zv_sipush (v := (720 : Int32)) X dX7_waysNoGreater_20 zsp_720 ?_
    refine zv_icmp_ge (tgt := 54) X dX7_waysNoGreater_23 (by decide) (fun c1 => ?_) (fun c1 => ?_)
    · replace e := zit e c1
      refine zv_iload_n X dX7_waysNoGreater_54 rfl rfl ?_
      exact zv_retI X e rfl dX7_waysNoGreater_55
    · replace e := zif e c1
      refine zv_aload_n X dX7_waysNoGreater_26 rfl rfl ?_
      refine zv_iload X dX7_waysNoGreater_27 rfl ?_
      refine zb e (fun q2 gq2 e => ?_)
      refine zv_callV (stk := [.int a4, .ref 59]) (as := [.int a4]) (st := []) (k := 59) X zl_RX7_61 zm_X7_deal (k_X7_deal (d := d - 1) (by omega) gq2) (by omega) zb_59 (by rw [zk_59]; rfl) rfl rfl (Nat.le_of_ble_eq_true rfl) (Nat.le_refl _) rfl dX7_waysNoGreater_29 ?_
      show J 32 [(0, .ref 59), (1, .long a1), (3, .int a3), (4, .int a4)] [] 117 zRF q2
      refine zv_aload_n X dX7_waysNoGreater_32 rfl rfl ?_
      refine zv_aload_n X dX7_waysNoGreater_33 rfl rfl ?_
      refine zv_getR X zf_RX7_25 znt_a zk_59 zb_59 zr_59_4 dX7_waysNoGreater_34 ?_
      refine zb e (fun q3 gq3 e => ?_)
      refine zv_callV (stk := [.ref 64, .ref 59]) (as := [.ref 64]) (st := []) (k := 59) X zl_RX7_51 zm_X7_effectBy (k_X7_effectBy_64 (d := d - 1) (by omega) gq3) (by omega) zb_59 (by rw [zk_59]; rfl) rfl rfl (Nat.le_of_ble_eq_true rfl) (Nat.le_refl _) rfl dX7_waysNoGreater_37 ?_
      show J 40 [(0, .ref 59), (1, .long a1), (3, .int a3), (4, .int a4)] [.long q3.1] 117 zRF q3.2
      refine zv_lload_n X dX7_waysNoGreater_40 rfl rfl ?_
      refine zv_lcmp_gt (tgt := 48) (pc2 := 45) X dX7_waysNoGreater_41 rfl dX7_waysNoGreater_42 (by decide) rfl (fun c4 => ?_) (fun c4 => ?_)
      · replace e := zit e c4
        exact k_X7_waysNoGreater_L48 q hd X ih _ _ _ _ e
      · replace e := zif e c4
        refine zv_iinc (k := 2) (v := a3 + (1 : Int32)) (lv' := [(3, .int (a3 + (1 : Int32))), (0, .ref 59), (1, .long a1), (4, .int a4)]) X dX7_waysNoGreater_45 rfl rfl (Nat.le_of_ble_eq_true rfl) rfl ?_
        exact zv_pick X [1, 2, 0, 3] rfl (k_X7_waysNoGreater_L48 q hd X ih _ _ _ _ e)
set_option maxRecDepth 100000 in
set_option maxHeartbeats 4000000 in
theorem k_X7_waysNoGreater {l : Launch} {D : va_G} {cy : Nat → ClassId} {S0 d : Nat} (hd : 2 ≤ d) {h : zHp} {q : (Int32 × zHp)} (e : s_X7_waysNoGreater  h = some q) : zCT l D cy S0 d yX7_waysNoGreater cX7_waysNoGreater 5 (some .int) [.ref 59] 117 zRF h (some (.int q.1)) 117 zRF q.2 := by
  unfold s_X7_waysNoGreater at e
  refine zCT_of RX7 rfl zm_X7_waysNoGreater (Nat.le_refl _) (Nat.le_of_ble_eq_true rfl) (fun J X => ?_)
  show J 0 [(0, .ref 59)] [] 117 zRF h
  refine zv_aload_n X dX7_waysNoGreater_0 rfl rfl ?_
  refine zb e (fun q1 gq1 e => ?_)
  refine zv_callV (stk := [.ref 59]) (as := []) (st := []) (k := 59) X zl_RX7_48 zm_X7_fillRises (k_X7_fillRises (d := d - 1) (by omega) gq1) (by omega) zb_59 (by rw [zk_59]; rfl) rfl rfl (Nat.le_of_ble_eq_true rfl) (Nat.le_refl _) rfl dX7_waysNoGreater_1 ?_
  show J 4 [(0, .ref 59)] [] 117 zRF q1
  refine zv_aload_n X dX7_waysNoGreater_4 rfl rfl ?_
  refine zv_aload_n X dX7_waysNoGreater_5 rfl rfl ?_
  refine zv_getR X zf_RX7_9 znt_a zk_59 zb_59 zr_59_0 dX7_waysNoGreater_6 ?_
  refine zb e (fun q2 gq2 e => ?_)
  refine zv_callV (stk := [.ref 60, .ref 59]) (as := [.ref 60]) (st := []) (k := 59) X zl_RX7_51 zm_X7_effectBy (k_X7_effectBy_60 (d := d - 1) (by omega) gq2) (by omega) zb_59 (by rw [zk_59]; rfl) rfl rfl (Nat.le_of_ble_eq_true rfl) (Nat.le_refl _) rfl dX7_waysNoGreater_9 ?_
  show J 12 [(0, .ref 59)] [.long q2.1] 117 zRF q2.2
  refine zv_lstore_n (i := 1) (lv' := [(1, .long q2.1), (0, .ref 59)]) X dX7_waysNoGreater_12 rfl (Nat.le_of_ble_eq_true rfl) rfl ?_
  refine zv_iconst (v := (0 : Int32)) X dX7_waysNoGreater_13 zic_0 ?_
  refine zv_istore_n (i := 3) (lv' := [(3, .int (0 : Int32)), (1, .long q2.1), (0, .ref 59)]) X dX7_waysNoGreater_14 rfl (Nat.le_of_ble_eq_true rfl) rfl ?_
  refine zv_iconst (v := (0 : Int32)) X dX7_waysNoGreater_15 zic_0 ?_
  refine zv_istore (i := 4) (lv' := [(4, .int (0 : Int32)), (3, .int (0 : Int32)), (1, .long q2.1), (0, .ref 59)]) X dX7_waysNoGreater_16 (Nat.le_of_ble_eq_true rfl) rfl ?_
  exact zv_pick X [3, 2, 1, 0] rfl (k_X7_waysNoGreater_L18 q hd X _ _ _ _ _ e)
-- X9_chance
def s_X9_chance_L22 (b0 : Int32) (h : zHp) : Option (Int32 × zHp) :=
  some (b0, h)
def s_X9_chance  (h : zHp) : Option (Int32 × zHp) :=
  (s_X7_hasEffect h).bind fun q1 =>
  if q1.1 = 0 then
    s_X9_chance_L22 (-9 : Int32) q1.2
  else
    (s_X7_waysNoGreater q1.2).bind fun q3 =>
    s_X9_chance_L22 q3.1 q3.2
set_option maxRecDepth 100000 in
set_option maxHeartbeats 4000000 in
theorem k_X9_chance_L22 {l : Launch} {D : va_G} {cy : Nat → ClassId} {S0 d : Nat} {J : zJ} (q : (Int32 × zHp)) (hd : 3 ≤ d) (X : zOK l D cy S0 d RX9 cX9_chance 1 (yX9_chance.name == "<init>") 117 117 (some .int) (zRT 117 zRF (some (.int q.1)) q.2) J) : ∀ (b0 : Int32) (h : zHp), s_X9_chance_L22 b0 h = some q → J 22 [] [.int b0] 117 zRF h := by
  intro b0 h e
  unfold s_X9_chance_L22 at e
  exact zv_retI X e rfl dX9_chance_22
set_option maxRecDepth 100000 in
set_option maxHeartbeats 4000000 in
theorem k_X9_chance {l : Launch} {D : va_G} {cy : Nat → ClassId} {S0 d : Nat} (hd : 3 ≤ d) {h : zHp} {q : (Int32 × zHp)} (e : s_X9_chance  h = some q) : zCT l D cy S0 d yX9_chance cX9_chance 1 (some .int) [.ref 0] 117 zRF h (some (.int q.1)) 117 zRF q.2 := by
  unfold s_X9_chance at e
  refine zCT_of RX9 rfl zm_X9_chance (Nat.le_refl _) (Nat.le_of_ble_eq_true rfl) (fun J X => ?_)
  show J 0 [(0, .ref 0)] [] 117 zRF h
  refine zv_aload_n X dX9_chance_0 rfl rfl ?_
  refine zv_getR X zf_RX9_84 znt_o zk_0 zb_0 zr_0_12 dX9_chance_1 ?_
  refine zb e (fun q1 gq1 e => ?_)
  refine zv_callV (stk := [.ref 59]) (as := []) (st := []) (k := 59) X zl_RX9_276 zm_X7_hasEffect (k_X7_hasEffect (d := d - 1) (by omega) gq1) (by omega) zb_59 (by rw [zk_59]; rfl) rfl rfl (Nat.le_of_ble_eq_true rfl) (Nat.le_refl _) rfl dX9_chance_4 ?_
  show J 7 [(0, .ref 0)] [.int q1.1] 117 zRF q1.2
  refine zv_if_eq (tgt := 20) X dX9_chance_7 (by decide) (fun c2 => ?_) (fun c2 => ?_)
  · replace e := zit e c2
    refine zv_bipush (v := (-9 : Int32)) X dX9_chance_20 zbp_m9 ?_
    exact zv_pick X [] rfl (k_X9_chance_L22 q hd X _ _ e)
  · replace e := zif e c2
    refine zv_aload_n X dX9_chance_10 rfl rfl ?_
    refine zv_getR X zf_RX9_84 znt_o zk_0 zb_0 zr_0_12 dX9_chance_11 ?_
    refine zb e (fun q3 gq3 e => ?_)
    refine zv_callV (stk := [.ref 59]) (as := []) (st := []) (k := 59) X zl_RX9_283 zm_X7_waysNoGreater (k_X7_waysNoGreater (d := d - 1) (by omega) gq3) (by omega) zb_59 (by rw [zk_59]; rfl) rfl rfl (Nat.le_of_ble_eq_true rfl) (Nat.le_refl _) rfl dX9_chance_14 ?_
    show J 17 [(0, .ref 0)] [.int q3.1] 117 zRF q3.2
    refine zv_goto (tgt := 22) X dX9_chance_17 (by decide) ?_
    exact zv_pick X [] rfl (k_X9_chance_L22 q hd X _ _ e)
-- X10_findChance
def s_X10_findChance_L182 (k26 : Int64 → Int64 → Int32 → Int32 → zHp → Option (Int32 × zHp)) (a1 : Int64) (a3 : Int64) (a6 : Int32) (b0 : Int32) (b1 : Int32) (h : zHp) : Option (Int32 × zHp) :=
  (some (b0 + b1)).bind fun v1 =>
  k26 a1 a3 v1 (a6 + (1 : Int32)) h
def s_X10_findChance_L66 (k26 : Int64 → Int64 → Int32 → Int32 → zHp → Option (Int32 × zHp)) : Nat → Int64 → Int64 → Int32 → Int32 → Int32 → Int32 → zHp → Option (Int32 × zHp)
  | 0, _, _, _, _, _, _, _ => none
  | f + 1, a1, a3, a5, a6, a7, a8, h =>
  if (6 : Int32) ≤ a8 then
    (s_X10_findEffect h).bind fun q2 =>
    if (a1 * (q2.2.2 67 60)) < ((q2.2.2 67 59) * a3) then
      s_X10_findChance_L182 k26 a1 a3 a6 a5 (0 : Int32) q2.2
    else
      s_X10_findChance_L182 k26 a1 a3 a6 a5 (1 : Int32) q2.2
  else
    (zrem a7 ((6 : Int32) - a8)).bind fun v4 =>
    (some (a8 + v4)).bind fun v5 =>
    (zdiv a7 ((6 : Int32) - a8)).bind fun v6 =>
    (zri h 116 6 a8).bind fun v7 =>
    (zri h 116 6 v5).bind fun v8 =>
    (zui h 116 6 a8 v8).bind fun h9 =>
    (zui h9 116 6 v5 v7).bind fun h10 =>
    (zri h10 116 6 a8).bind fun v11 =>
    (zri h10 113 6 v11).bind fun v12 =>
    (zui h10 115 6 a8 v12).bind fun h13 =>
    s_X10_findChance_L66 k26 f a1 a3 a5 a6 v6 (a8 + (1 : Int32)) h13
def s_X10_findChance_L41 (k26 : Int64 → Int64 → Int32 → Int32 → zHp → Option (Int32 × zHp)) : Nat → Int64 → Int64 → Int32 → Int32 → Int32 → Int32 → zHp → Option (Int32 × zHp)
  | 0, _, _, _, _, _, _, _ => none
  | f + 1, a1, a3, a5, a6, a7, a8, h =>
  if (6 : Int32) ≤ a8 then
    s_X10_findChance_L66 k26 zFU a1 a3 a5 a6 a7 (0 : Int32) h
  else
    (zui h 116 6 a8 a8).bind fun h2 =>
    s_X10_findChance_L41 k26 f a1 a3 a5 a6 a7 (a8 + (1 : Int32)) h2
def s_X10_findChance_L26 : Nat → Int64 → Int64 → Int32 → Int32 → zHp → Option (Int32 × zHp)
  | 0, _, _, _, _, _ => none
  | f + 1, a1, a3, a5, a6, h =>
  if (720 : Int32) ≤ a6 then
    some (a5, h)
  else
    s_X10_findChance_L41 (s_X10_findChance_L26 f) zFU a1 a3 a5 a6 a6 (0 : Int32) h
def s_X10_findChance  (h : zHp) : Option (Int32 × zHp) :=
  (s_X10_findTrue h).bind fun q1 =>
  if q1.1 = 0 then
    some ((-9 : Int32), q1.2)
  else
    (some (q1.2.2 67 59)).bind fun v3 =>
    (some (q1.2.2 67 60)).bind fun v4 =>
    s_X10_findChance_L26 zFU v3 v4 (0 : Int32) (0 : Int32) q1.2
set_option maxRecDepth 100000 in
set_option maxHeartbeats 4000000 in
theorem k_X10_findChance_L182 {l : Launch} {D : va_G} {cy : Nat → ClassId} {S0 d : Nat} {J : zJ} (q : (Int32 × zHp)) (hd : 4 ≤ d) (X : zOK l D cy S0 d RX10 cX10_findChance 11 (yX10_findChance.name == "<init>") 117 117 (some .int) (zRT 117 zRF (some (.int q.1)) q.2) J) {k26 : Int64 → Int64 → Int32 → Int32 → zHp → Option (Int32 × zHp)} (hk26 : ∀ (a1 : Int64) (a3 : Int64) (a5 : Int32) (a6 : Int32) (h : zHp), k26 a1 a3 a5 a6 h = some q → J 26 [(0, .ref 67), (1, .long a1), (3, .long a3), (5, .int a5), (6, .int a6)] [] 117 zRF h) : ∀ (a1 : Int64) (a3 : Int64) (a6 : Int32) (b0 : Int32) (b1 : Int32) (h : zHp), s_X10_findChance_L182 k26 a1 a3 a6 b0 b1 h = some q → J 182 [(0, .ref 67), (1, .long a1), (3, .long a3), (6, .int a6)] [.int b1, .int b0] 117 zRF h := by
  intro a1 a3 a6 b0 b1 h e
  unfold s_X10_findChance_L182 at e
  refine zv_iadd X dX10_findChance_182 ?_
  refine zb e (fun v1 gv1 e => ?_)
  refine zv_nmI X gv1 ?_
  refine zv_istore (i := 5) (lv' := [(5, .int v1), (0, .ref 67), (1, .long a1), (3, .long a3), (6, .int a6)]) X dX10_findChance_183 (Nat.le_of_ble_eq_true rfl) rfl ?_
  refine zv_iinc (k := 4) (v := a6 + (1 : Int32)) (lv' := [(6, .int (a6 + (1 : Int32))), (5, .int v1), (0, .ref 67), (1, .long a1), (3, .long a3)]) X dX10_findChance_185 rfl rfl (Nat.le_of_ble_eq_true rfl) rfl ?_
  refine zv_goto (tgt := 26) X dX10_findChance_188 (by decide) ?_
  exact zv_pick X [2, 3, 4, 1, 0] rfl (hk26 _ _ _ _ _ e)
set_option maxRecDepth 100000 in
set_option maxHeartbeats 4000000 in
theorem k_X10_findChance_L66 {l : Launch} {D : va_G} {cy : Nat → ClassId} {S0 d : Nat} {J : zJ} (q : (Int32 × zHp)) (hd : 4 ≤ d) (X : zOK l D cy S0 d RX10 cX10_findChance 11 (yX10_findChance.name == "<init>") 117 117 (some .int) (zRT 117 zRF (some (.int q.1)) q.2) J) {k26 : Int64 → Int64 → Int32 → Int32 → zHp → Option (Int32 × zHp)} (hk26 : ∀ (a1 : Int64) (a3 : Int64) (a5 : Int32) (a6 : Int32) (h : zHp), k26 a1 a3 a5 a6 h = some q → J 26 [(0, .ref 67), (1, .long a1), (3, .long a3), (5, .int a5), (6, .int a6)] [] 117 zRF h) : ∀ (f : Nat) (a1 : Int64) (a3 : Int64) (a5 : Int32) (a6 : Int32) (a7 : Int32) (a8 : Int32) (h : zHp), s_X10_findChance_L66 k26 f a1 a3 a5 a6 a7 a8 h = some q → J 66 [(0, .ref 67), (1, .long a1), (3, .long a3), (5, .int a5), (6, .int a6), (7, .int a7), (8, .int a8)] [] 117 zRF h := by
  intro f
  induction f with
  | zero => intro _ _ _ _ _ _ h e; exact absurd e (fun z => by cases z)
  | succ f ih =>
    intro a1 a3 a5 a6 a7 a8 h e
    rw [s_X10_findChance_L66] at e
    refine zv_iload X dX10_findChance_66 rfl ?_
    refine zv_bipush (v := (6 : Int32)) X dX10_findChance_68 zbp_6 ?_
    refine zv_icmp_ge (tgt := 153) X dX10_findChance_70 (by decide) (fun c1 => ?_) (fun c1 => ?_)
    · replace e := zit e c1
      refine zv_aload_n X dX10_findChance_153 rfl rfl ?_
      refine zb e (fun q2 gq2 e => ?_)
      refine zv_callV (stk := [.ref 67]) (as := []) (st := []) (k := 67) X zl_RX10_325 zm_X10_findEffect (k_X10_findEffect (d := d - 1) (by omega) gq2) (by omega) zb_67 (by rw [zk_67]; rfl) rfl rfl (Nat.le_of_ble_eq_true rfl) (Nat.le_refl _) rfl dX10_findChance_154 ?_
      show J 157 [(0, .ref 67), (1, .long a1), (3, .long a3), (5, .int a5), (6, .int a6), (7, .int a7), (8, .int a8)] [.int q2.1] 117 zRF q2.2
      refine zv_istore (i := 8) (lv' := [(8, .int q2.1), (0, .ref 67), (1, .long a1), (3, .long a3), (5, .int a5), (6, .int a6), (7, .int a7)]) X dX10_findChance_157 (Nat.le_of_ble_eq_true rfl) rfl ?_
      refine zv_iload X dX10_findChance_159 rfl ?_
      refine zv_aload_n X dX10_findChance_161 rfl rfl ?_
      refine zv_getL X zf_RX10_309 zk_67 zb_67 dX10_findChance_162 ?_
      refine zv_lload_n X dX10_findChance_165 rfl rfl ?_
      refine zv_lmul X dX10_findChance_166 ?_
      refine zv_lload_n X dX10_findChance_167 rfl rfl ?_
      refine zv_aload_n X dX10_findChance_168 rfl rfl ?_
      refine zv_getL X zf_RX10_312 zk_67 zb_67 dX10_findChance_169 ?_
      refine zv_lmul X dX10_findChance_172 ?_
      refine zv_lcmp_gt (tgt := 181) (pc2 := 177) X dX10_findChance_173 rfl dX10_findChance_174 (by decide) rfl (fun c3 => ?_) (fun c3 => ?_)
      · replace e := zit e c3
        refine zv_iconst (v := (0 : Int32)) X dX10_findChance_181 zic_0 ?_
        exact zv_pick X [1, 2, 3, 5] rfl (k_X10_findChance_L182 q hd X hk26 _ _ _ _ _ _ e)
      · replace e := zif e c3
        refine zv_iconst (v := (1 : Int32)) X dX10_findChance_177 zic_1 ?_
        refine zv_goto (tgt := 182) X dX10_findChance_178 (by decide) ?_
        exact zv_pick X [1, 2, 3, 5] rfl (k_X10_findChance_L182 q hd X hk26 _ _ _ _ _ _ e)
    · replace e := zif e c1
      refine zv_iload X dX10_findChance_73 rfl ?_
      refine zv_iload X dX10_findChance_75 rfl ?_
      refine zv_bipush (v := (6 : Int32)) X dX10_findChance_77 zbp_6 ?_
      refine zv_iload X dX10_findChance_79 rfl ?_
      refine zv_isub X dX10_findChance_81 ?_
      refine zb e (fun v4 gv4 e => ?_)
      refine zv_irem X dX10_findChance_82 gv4 ?_
      refine zv_iadd X dX10_findChance_83 ?_
      refine zb e (fun v5 gv5 e => ?_)
      refine zv_nmI X gv5 ?_
      refine zv_istore (i := 9) (lv' := [(9, .int v5), (0, .ref 67), (1, .long a1), (3, .long a3), (5, .int a5), (6, .int a6), (7, .int a7), (8, .int a8)]) X dX10_findChance_84 (Nat.le_of_ble_eq_true rfl) rfl ?_
      refine zv_iload X dX10_findChance_86 rfl ?_
      refine zv_bipush (v := (6 : Int32)) X dX10_findChance_88 zbp_6 ?_
      refine zv_iload X dX10_findChance_90 rfl ?_
      refine zv_isub X dX10_findChance_92 ?_
      refine zb e (fun v6 gv6 e => ?_)
      refine zv_idiv X dX10_findChance_93 gv6 ?_
      refine zv_istore (i := 7) (lv' := [(7, .int v6), (9, .int v5), (0, .ref 67), (1, .long a1), (3, .long a3), (5, .int a5), (6, .int a6), (8, .int a8)]) X dX10_findChance_94 (Nat.le_of_ble_eq_true rfl) rfl ?_
      refine zv_aload_n X dX10_findChance_96 rfl rfl ?_
      refine zv_getR X zf_RX10_160 znt_a zk_67 zb_67 zr_67_61 dX10_findChance_97 ?_
      refine zv_iload X dX10_findChance_100 rfl ?_
      refine zb e (fun v7 gv7 e => ?_)
      refine zv_iald X zk_116 zl_116 zb_116 dX10_findChance_102 gv7 ?_
      refine zv_istore (i := 10) (lv' := [(10, .int v7), (7, .int v6), (9, .int v5), (0, .ref 67), (1, .long a1), (3, .long a3), (5, .int a5), (6, .int a6), (8, .int a8)]) X dX10_findChance_103 (Nat.le_of_ble_eq_true rfl) rfl ?_
      refine zv_aload_n X dX10_findChance_105 rfl rfl ?_
      refine zv_getR X zf_RX10_160 znt_a zk_67 zb_67 zr_67_61 dX10_findChance_106 ?_
      refine zv_iload X dX10_findChance_109 rfl ?_
      refine zv_aload_n X dX10_findChance_111 rfl rfl ?_
      refine zv_getR X zf_RX10_160 znt_a zk_67 zb_67 zr_67_61 dX10_findChance_112 ?_
      refine zv_iload X dX10_findChance_115 rfl ?_
      refine zb e (fun v8 gv8 e => ?_)
      refine zv_iald X zk_116 zl_116 zb_116 dX10_findChance_117 gv8 ?_
      refine zb e (fun h9 gh9 e => ?_)
      refine zv_iast X zk_116 zl_116 zb_116 dX10_findChance_118 gh9 ?_
      refine zv_aload_n X dX10_findChance_119 rfl rfl ?_
      refine zv_getR X zf_RX10_160 znt_a zk_67 zb_67 zr_67_61 dX10_findChance_120 ?_
      refine zv_iload X dX10_findChance_123 rfl ?_
      refine zv_iload X dX10_findChance_125 rfl ?_
      refine zb e (fun h10 gh10 e => ?_)
      refine zv_iast X zk_116 zl_116 zb_116 dX10_findChance_127 gh10 ?_
      refine zv_aload_n X dX10_findChance_128 rfl rfl ?_
      refine zv_getR X zf_RX10_157 znt_a zk_67 zb_67 zr_67_58 dX10_findChance_129 ?_
      refine zv_iload X dX10_findChance_132 rfl ?_
      refine zv_aload_n X dX10_findChance_134 rfl rfl ?_
      refine zv_getR X zf_RX10_151 znt_a zk_67 zb_67 zr_67_56 dX10_findChance_135 ?_
      refine zv_aload_n X dX10_findChance_138 rfl rfl ?_
      refine zv_getR X zf_RX10_160 znt_a zk_67 zb_67 zr_67_61 dX10_findChance_139 ?_
      refine zv_iload X dX10_findChance_142 rfl ?_
      refine zb e (fun v11 gv11 e => ?_)
      refine zv_iald X zk_116 zl_116 zb_116 dX10_findChance_144 gv11 ?_
      refine zb e (fun v12 gv12 e => ?_)
      refine zv_iald X zk_113 zl_113 zb_113 dX10_findChance_145 gv12 ?_
      refine zb e (fun h13 gh13 e => ?_)
      refine zv_iast X zk_115 zl_115 zb_115 dX10_findChance_146 gh13 ?_
      refine zv_iinc (k := 8) (v := a8 + (1 : Int32)) (lv' := [(8, .int (a8 + (1 : Int32))), (10, .int v7), (7, .int v6), (9, .int v5), (0, .ref 67), (1, .long a1), (3, .long a3), (5, .int a5), (6, .int a6)]) X dX10_findChance_147 rfl rfl (Nat.le_of_ble_eq_true rfl) rfl ?_
      refine zv_goto (tgt := 66) X dX10_findChance_150 (by decide) ?_
      exact zv_pick X [4, 5, 6, 7, 8, 2, 0] rfl (ih _ _ _ _ _ _ _ e)
set_option maxRecDepth 100000 in
set_option maxHeartbeats 4000000 in
theorem k_X10_findChance_L41 {l : Launch} {D : va_G} {cy : Nat → ClassId} {S0 d : Nat} {J : zJ} (q : (Int32 × zHp)) (hd : 4 ≤ d) (X : zOK l D cy S0 d RX10 cX10_findChance 11 (yX10_findChance.name == "<init>") 117 117 (some .int) (zRT 117 zRF (some (.int q.1)) q.2) J) {k26 : Int64 → Int64 → Int32 → Int32 → zHp → Option (Int32 × zHp)} (hk26 : ∀ (a1 : Int64) (a3 : Int64) (a5 : Int32) (a6 : Int32) (h : zHp), k26 a1 a3 a5 a6 h = some q → J 26 [(0, .ref 67), (1, .long a1), (3, .long a3), (5, .int a5), (6, .int a6)] [] 117 zRF h) : ∀ (f : Nat) (a1 : Int64) (a3 : Int64) (a5 : Int32) (a6 : Int32) (a7 : Int32) (a8 : Int32) (h : zHp), s_X10_findChance_L41 k26 f a1 a3 a5 a6 a7 a8 h = some q → J 41 [(0, .ref 67), (1, .long a1), (3, .long a3), (5, .int a5), (6, .int a6), (7, .int a7), (8, .int a8)] [] 117 zRF h := by
  intro f
  induction f with
  | zero => intro _ _ _ _ _ _ h e; exact absurd e (fun z => by cases z)
  | succ f ih =>
    intro a1 a3 a5 a6 a7 a8 h e
    rw [s_X10_findChance_L41] at e
    refine zv_iload X dX10_findChance_41 rfl ?_
    refine zv_bipush (v := (6 : Int32)) X dX10_findChance_43 zbp_6 ?_
    refine zv_icmp_ge (tgt := 63) X dX10_findChance_45 (by decide) (fun c1 => ?_) (fun c1 => ?_)
    · replace e := zit e c1
      refine zv_iconst (v := (0 : Int32)) X dX10_findChance_63 zic_0 ?_
      refine zv_istore (i := 8) (lv' := [(8, .int (0 : Int32)), (0, .ref 67), (1, .long a1), (3, .long a3), (5, .int a5), (6, .int a6), (7, .int a7)]) X dX10_findChance_64 (Nat.le_of_ble_eq_true rfl) rfl ?_
      exact zv_pick X [1, 2, 3, 4, 5, 6, 0] rfl (k_X10_findChance_L66 q hd X hk26 _ _ _ _ _ _ _ _ e)
    · replace e := zif e c1
      refine zv_aload_n X dX10_findChance_48 rfl rfl ?_
      refine zv_getR X zf_RX10_160 znt_a zk_67 zb_67 zr_67_61 dX10_findChance_49 ?_
      refine zv_iload X dX10_findChance_52 rfl ?_
      refine zv_iload X dX10_findChance_54 rfl ?_
      refine zb e (fun h2 gh2 e => ?_)
      refine zv_iast X zk_116 zl_116 zb_116 dX10_findChance_56 gh2 ?_
      refine zv_iinc (k := 6) (v := a8 + (1 : Int32)) (lv' := [(8, .int (a8 + (1 : Int32))), (0, .ref 67), (1, .long a1), (3, .long a3), (5, .int a5), (6, .int a6), (7, .int a7)]) X dX10_findChance_57 rfl rfl (Nat.le_of_ble_eq_true rfl) rfl ?_
      refine zv_goto (tgt := 41) X dX10_findChance_60 (by decide) ?_
      exact zv_pick X [1, 2, 3, 4, 5, 6, 0] rfl (ih _ _ _ _ _ _ _ e)
set_option maxRecDepth 100000 in
set_option maxHeartbeats 4000000 in
theorem k_X10_findChance_L26 {l : Launch} {D : va_G} {cy : Nat → ClassId} {S0 d : Nat} {J : zJ} (q : (Int32 × zHp)) (hd : 4 ≤ d) (X : zOK l D cy S0 d RX10 cX10_findChance 11 (yX10_findChance.name == "<init>") 117 117 (some .int) (zRT 117 zRF (some (.int q.1)) q.2) J) : ∀ (f : Nat) (a1 : Int64) (a3 : Int64) (a5 : Int32) (a6 : Int32) (h : zHp), s_X10_findChance_L26 f a1 a3 a5 a6 h = some q → J 26 [(0, .ref 67), (1, .long a1), (3, .long a3), (5, .int a5), (6, .int a6)] [] 117 zRF h := by
  intro f
  induction f with
  | zero => intro _ _ _ _ h e; exact absurd e (fun z => by cases z)
  | succ f ih =>
    intro a1 a3 a5 a6 h e
    rw [s_X10_findChance_L26] at e
    refine zv_iload X dX10_findChance_26 rfl ?_
    refine zv_sipush (v := (720 : Int32)) X dX10_findChance_28 zsp_720 ?_
    refine zv_icmp_ge (tgt := 191) X dX10_findChance_31 (by decide) (fun c1 => ?_) (fun c1 => ?_)
    · replace e := zit e c1
      refine zv_iload X dX10_findChance_191 rfl ?_
      exact zv_retI X e rfl dX10_findChance_193
    · replace e := zif e c1
      refine zv_iload X dX10_findChance_34 rfl ?_
      refine zv_istore (i := 7) (lv' := [(7, .int a6), (0, .ref 67), (1, .long a1), (3, .long a3), (5, .int a5), (6, .int a6)]) X dX10_findChance_36 (Nat.le_of_ble_eq_true rfl) rfl ?_
      refine zv_iconst (v := (0 : Int32)) X dX10_findChance_38 zic_0 ?_
      refine zv_istore (i := 8) (lv' := [(8, .int (0 : Int32)), (7, .int a6), (0, .ref 67), (1, .long a1), (3, .long a3), (5, .int a5), (6, .int a6)]) X dX10_findChance_39 (Nat.le_of_ble_eq_true rfl) rfl ?_
      exact zv_pick X [2, 3, 4, 5, 6, 1, 0] rfl (k_X10_findChance_L41 q hd X ih _ _ _ _ _ _ _ _ e)
set_option maxRecDepth 100000 in
set_option maxHeartbeats 4000000 in
theorem k_X10_findChance {l : Launch} {D : va_G} {cy : Nat → ClassId} {S0 d : Nat} (hd : 4 ≤ d) {h : zHp} {q : (Int32 × zHp)} (e : s_X10_findChance  h = some q) : zCT l D cy S0 d yX10_findChance cX10_findChance 11 (some .int) [.ref 67] 117 zRF h (some (.int q.1)) 117 zRF q.2 := by
  unfold s_X10_findChance at e
  refine zCT_of RX10 rfl zm_X10_findChance (Nat.le_refl _) (Nat.le_of_ble_eq_true rfl) (fun J X => ?_)
  show J 0 [(0, .ref 67)] [] 117 zRF h
  refine zv_aload_n X dX10_findChance_0 rfl rfl ?_
  refine zb e (fun q1 gq1 e => ?_)
  refine zv_callV (stk := [.ref 67]) (as := []) (st := []) (k := 67) X zl_RX10_329 zm_X10_findTrue (k_X10_findTrue (d := d - 1) (by omega) gq1) (by omega) zb_67 (by rw [zk_67]; rfl) rfl rfl (Nat.le_of_ble_eq_true rfl) (Nat.le_refl _) rfl dX10_findChance_1 ?_
  show J 4 [(0, .ref 67)] [.int q1.1] 117 zRF q1.2
  refine zv_if_ne (tgt := 10) X dX10_findChance_4 (by decide) (fun c2 => ?_) (fun c2 => ?_)
  · replace e := zif e c2
    refine zv_aload_n X dX10_findChance_10 rfl rfl ?_
    refine zv_getL X zf_RX10_309 zk_67 zb_67 dX10_findChance_11 ?_
    refine zb e (fun v3 gv3 e => ?_)
    refine zv_nmJ X gv3 ?_
    refine zv_lstore_n (i := 1) (lv' := [(1, .long v3), (0, .ref 67)]) X dX10_findChance_14 rfl (Nat.le_of_ble_eq_true rfl) rfl ?_
    refine zv_aload_n X dX10_findChance_15 rfl rfl ?_
    refine zv_getL X zf_RX10_312 zk_67 zb_67 dX10_findChance_16 ?_
    refine zb e (fun v4 gv4 e => ?_)
    refine zv_nmJ X gv4 ?_
    refine zv_lstore_n (i := 3) (lv' := [(3, .long v4), (1, .long v3), (0, .ref 67)]) X dX10_findChance_19 rfl (Nat.le_of_ble_eq_true rfl) rfl ?_
    refine zv_iconst (v := (0 : Int32)) X dX10_findChance_20 zic_0 ?_
    refine zv_istore (i := 5) (lv' := [(5, .int (0 : Int32)), (3, .long v4), (1, .long v3), (0, .ref 67)]) X dX10_findChance_21 (Nat.le_of_ble_eq_true rfl) rfl ?_
    refine zv_iconst (v := (0 : Int32)) X dX10_findChance_23 zic_0 ?_
    refine zv_istore (i := 6) (lv' := [(6, .int (0 : Int32)), (5, .int (0 : Int32)), (3, .long v4), (1, .long v3), (0, .ref 67)]) X dX10_findChance_24 (Nat.le_of_ble_eq_true rfl) rfl ?_
    exact zv_pick X [4, 3, 2, 1, 0] rfl (k_X10_findChance_L26 q hd X _ _ _ _ _ _ e)
  · replace e := zit e c2
    refine zv_bipush (v := (-9 : Int32)) X dX10_findChance_7 zbp_m9 ?_
    exact zv_retI X e rfl dX10_findChance_9
-- X10_chance
def s_X10_chance  (h : zHp) : Option (Int32 × zHp) :=
  (s_X10_findChance h).bind fun q1 =>
  some (q1.1, q1.2)
set_option maxRecDepth 100000 in
set_option maxHeartbeats 4000000 in
theorem k_X10_chance {l : Launch} {D : va_G} {cy : Nat → ClassId} {S0 d : Nat} (hd : 5 ≤ d) {h : zHp} {q : (Int32 × zHp)} (e : s_X10_chance  h = some q) : zCT l D cy S0 d yX10_chance cX10_chance 1 (some .int) [.ref 67] 117 zRF h (some (.int q.1)) 117 zRF q.2 := by
  unfold s_X10_chance at e
  refine zCT_of RX10 rfl zm_X10_chance (Nat.le_refl _) (Nat.le_of_ble_eq_true rfl) (fun J X => ?_)
  show J 0 [(0, .ref 67)] [] 117 zRF h
  refine zv_aload_n X dX10_chance_0 rfl rfl ?_
  refine zb e (fun q1 gq1 e => ?_)
  refine zv_callV (stk := [.ref 67]) (as := []) (st := []) (k := 67) X zl_RX10_332 zm_X10_findChance (k_X10_findChance (d := d - 1) (by omega) gq1) (by omega) zb_67 (by rw [zk_67]; rfl) rfl rfl (Nat.le_of_ble_eq_true rfl) (Nat.le_refl _) rfl dX10_chance_1 ?_
  show J 4 [(0, .ref 67)] [.int q1.1] 117 zRF q1.2
  exact zv_retI X e rfl dX10_chance_4
-- X9_helped
def s_X9_helped_L26  (h : zHp) : Option (Int32 × zHp) :=
  some ((0 : Int32), h)
def s_X9_helped_L45 (b0 : Int32) (h : zHp) : Option (Int32 × zHp) :=
  some (b0, h)
def s_X9_helped  (h : zHp) : Option (Int32 × zHp) :=
  (s_X7_hasEffect h).bind fun q1 =>
  if q1.1 = 0 then
    s_X9_helped_L26 q1.2
  else
    (s_X7_trueEffect q1.2).bind fun q3 =>
    (s_X2_piece_65 (0 : Int32) q3).bind fun q4 =>
    if q4.1 < (0 : Int64) then
      (s_X7_waysNoGreater q4.2).bind fun q6 =>
      if (36 : Int32) < q6.1 then
        s_X9_helped_L45 (0 : Int32) q6.2
      else
        s_X9_helped_L45 (1 : Int32) q6.2
    else
      s_X9_helped_L26 q4.2
set_option maxRecDepth 100000 in
set_option maxHeartbeats 4000000 in
theorem k_X9_helped_L26 {l : Launch} {D : va_G} {cy : Nat → ClassId} {S0 d : Nat} {J : zJ} (q : (Int32 × zHp)) (hd : 3 ≤ d) (X : zOK l D cy S0 d RX9 cX9_helped 1 (yX9_helped.name == "<init>") 117 117 (some .int) (zRT 117 zRF (some (.int q.1)) q.2) J) : ∀  (h : zHp), s_X9_helped_L26  h = some q → J 26 [] [] 117 zRF h := by
  intro  h e
  unfold s_X9_helped_L26 at e
  refine zv_iconst (v := (0 : Int32)) X dX9_helped_26 zic_0 ?_
  exact zv_retI X e rfl dX9_helped_27
set_option maxRecDepth 100000 in
set_option maxHeartbeats 4000000 in
theorem k_X9_helped_L45 {l : Launch} {D : va_G} {cy : Nat → ClassId} {S0 d : Nat} {J : zJ} (q : (Int32 × zHp)) (hd : 3 ≤ d) (X : zOK l D cy S0 d RX9 cX9_helped 1 (yX9_helped.name == "<init>") 117 117 (some .int) (zRT 117 zRF (some (.int q.1)) q.2) J) : ∀ (b0 : Int32) (h : zHp), s_X9_helped_L45 b0 h = some q → J 45 [] [.int b0] 117 zRF h := by
  intro b0 h e
  unfold s_X9_helped_L45 at e
  exact zv_retI X e rfl dX9_helped_45
set_option maxRecDepth 100000 in
set_option maxHeartbeats 4000000 in
theorem k_X9_helped {l : Launch} {D : va_G} {cy : Nat → ClassId} {S0 d : Nat} (hd : 3 ≤ d) {h : zHp} {q : (Int32 × zHp)} (e : s_X9_helped  h = some q) : zCT l D cy S0 d yX9_helped cX9_helped 1 (some .int) [.ref 0] 117 zRF h (some (.int q.1)) 117 zRF q.2 := by
  unfold s_X9_helped at e
  refine zCT_of RX9 rfl zm_X9_helped (Nat.le_refl _) (Nat.le_of_ble_eq_true rfl) (fun J X => ?_)
  show J 0 [(0, .ref 0)] [] 117 zRF h
  refine zv_aload_n X dX9_helped_0 rfl rfl ?_
  refine zv_getR X zf_RX9_84 znt_o zk_0 zb_0 zr_0_12 dX9_helped_1 ?_
  refine zb e (fun q1 gq1 e => ?_)
  refine zv_callV (stk := [.ref 59]) (as := []) (st := []) (k := 59) X zl_RX9_276 zm_X7_hasEffect (k_X7_hasEffect (d := d - 1) (by omega) gq1) (by omega) zb_59 (by rw [zk_59]; rfl) rfl rfl (Nat.le_of_ble_eq_true rfl) (Nat.le_refl _) rfl dX9_helped_4 ?_
  show J 7 [(0, .ref 0)] [.int q1.1] 117 zRF q1.2
  refine zv_if_eq (tgt := 26) X dX9_helped_7 (by decide) (fun c2 => ?_) (fun c2 => ?_)
  · replace e := zit e c2
    exact zv_pick X [] rfl (k_X9_helped_L26 q hd X  _ e)
  · replace e := zif e c2
    refine zv_aload_n X dX9_helped_10 rfl rfl ?_
    refine zv_getR X zf_RX9_84 znt_o zk_0 zb_0 zr_0_12 dX9_helped_11 ?_
    refine zb e (fun q3 gq3 e => ?_)
    refine zv_callV (stk := [.ref 59]) (as := []) (st := []) (k := 59) X zl_RX9_279 zm_X7_trueEffect (k_X7_trueEffect (d := d - 1) (by omega) gq3) (by omega) zb_59 (by rw [zk_59]; rfl) rfl rfl (Nat.le_of_ble_eq_true rfl) (Nat.le_refl _) rfl dX9_helped_14 ?_
    show J 17 [(0, .ref 0)] [.ref 65] 117 zRF q3
    refine zv_iconst (v := (0 : Int32)) X dX9_helped_17 zic_0 ?_
    refine zb e (fun q4 gq4 e => ?_)
    refine zv_callV (stk := [.int (0 : Int32), .ref 65]) (as := [.int (0 : Int32)]) (st := []) (k := 65) X zl_RX9_238 zm_X2_piece (k_X2_piece_65 (d := d - 1) (by omega) gq4) (by omega) zb_65 (by rw [zk_65]; rfl) rfl rfl (Nat.le_of_ble_eq_true rfl) (Nat.le_refl _) rfl dX9_helped_18 ?_
    show J 21 [(0, .ref 0)] [.long q4.1] 117 zRF q4.2
    refine zv_lconst (v := (0 : Int64)) X dX9_helped_21 rfl ?_
    refine zv_lcmp_lt (tgt := 28) (pc2 := 26) X dX9_helped_22 rfl dX9_helped_23 (by decide) rfl (fun c5 => ?_) (fun c5 => ?_)
    · replace e := zit e c5
      refine zv_aload_n X dX9_helped_28 rfl rfl ?_
      refine zv_getR X zf_RX9_84 znt_o zk_0 zb_0 zr_0_12 dX9_helped_29 ?_
      refine zb e (fun q6 gq6 e => ?_)
      refine zv_callV (stk := [.ref 59]) (as := []) (st := []) (k := 59) X zl_RX9_283 zm_X7_waysNoGreater (k_X7_waysNoGreater (d := d - 1) (by omega) gq6) (by omega) zb_59 (by rw [zk_59]; rfl) rfl rfl (Nat.le_of_ble_eq_true rfl) (Nat.le_refl _) rfl dX9_helped_32 ?_
      show J 35 [(0, .ref 0)] [.int q6.1] 117 zRF q6.2
      refine zv_bipush (v := (36 : Int32)) X dX9_helped_35 zbp_36 ?_
      refine zv_icmp_gt (tgt := 44) X dX9_helped_37 (by decide) (fun c7 => ?_) (fun c7 => ?_)
      · replace e := zit e c7
        refine zv_iconst (v := (0 : Int32)) X dX9_helped_44 zic_0 ?_
        exact zv_pick X [] rfl (k_X9_helped_L45 q hd X _ _ e)
      · replace e := zif e c7
        refine zv_iconst (v := (1 : Int32)) X dX9_helped_40 zic_1 ?_
        refine zv_goto (tgt := 45) X dX9_helped_41 (by decide) ?_
        exact zv_pick X [] rfl (k_X9_helped_L45 q hd X _ _ e)
    · replace e := zif e c5
      exact zv_pick X [] rfl (k_X9_helped_L26 q hd X  _ e)
-- X10_helped
def s_X10_helped_L36 (b0 : Int32) (h : zHp) : Option (Int32 × zHp) :=
  some (b0, h)
def s_X10_helped_L35  (h : zHp) : Option (Int32 × zHp) :=
  s_X10_helped_L36 (0 : Int32) h
def s_X10_helped  (h : zHp) : Option (Int32 × zHp) :=
  (s_X10_findChance h).bind fun q1 =>
  (s_X10_findTrue q1.2).bind fun q2 =>
  if q1.1 = (-9 : Int32) then
    s_X10_helped_L35 q2.2
  else
    if (36 : Int32) < q1.1 then
      s_X10_helped_L35 q2.2
    else
      if (0 : Int64) ≤ (q2.2.2 67 59) then
        s_X10_helped_L35 q2.2
      else
        s_X10_helped_L36 (1 : Int32) q2.2
set_option maxRecDepth 100000 in
set_option maxHeartbeats 4000000 in
theorem k_X10_helped_L36 {l : Launch} {D : va_G} {cy : Nat → ClassId} {S0 d : Nat} {J : zJ} (q : (Int32 × zHp)) (hd : 5 ≤ d) (X : zOK l D cy S0 d RX10 cX10_helped 3 (yX10_helped.name == "<init>") 117 117 (some .int) (zRT 117 zRF (some (.int q.1)) q.2) J) : ∀ (b0 : Int32) (h : zHp), s_X10_helped_L36 b0 h = some q → J 36 [] [.int b0] 117 zRF h := by
  intro b0 h e
  unfold s_X10_helped_L36 at e
  exact zv_retI X e rfl dX10_helped_36
set_option maxRecDepth 100000 in
set_option maxHeartbeats 4000000 in
theorem k_X10_helped_L35 {l : Launch} {D : va_G} {cy : Nat → ClassId} {S0 d : Nat} {J : zJ} (q : (Int32 × zHp)) (hd : 5 ≤ d) (X : zOK l D cy S0 d RX10 cX10_helped 3 (yX10_helped.name == "<init>") 117 117 (some .int) (zRT 117 zRF (some (.int q.1)) q.2) J) : ∀  (h : zHp), s_X10_helped_L35  h = some q → J 35 [] [] 117 zRF h := by
  intro  h e
  unfold s_X10_helped_L35 at e
  refine zv_iconst (v := (0 : Int32)) X dX10_helped_35 zic_0 ?_
  exact k_X10_helped_L36 q hd X _ _ e
set_option maxRecDepth 100000 in
set_option maxHeartbeats 4000000 in
theorem k_X10_helped {l : Launch} {D : va_G} {cy : Nat → ClassId} {S0 d : Nat} (hd : 5 ≤ d) {h : zHp} {q : (Int32 × zHp)} (e : s_X10_helped  h = some q) : zCT l D cy S0 d yX10_helped cX10_helped 3 (some .int) [.ref 67] 117 zRF h (some (.int q.1)) 117 zRF q.2 := by
  unfold s_X10_helped at e
  refine zCT_of RX10 rfl zm_X10_helped (Nat.le_refl _) (Nat.le_of_ble_eq_true rfl) (fun J X => ?_)
  show J 0 [(0, .ref 67)] [] 117 zRF h
  refine zv_aload_n X dX10_helped_0 rfl rfl ?_
  refine zb e (fun q1 gq1 e => ?_)
  refine zv_callV (stk := [.ref 67]) (as := []) (st := []) (k := 67) X zl_RX10_332 zm_X10_findChance (k_X10_findChance (d := d - 1) (by omega) gq1) (by omega) zb_67 (by rw [zk_67]; rfl) rfl rfl (Nat.le_of_ble_eq_true rfl) (Nat.le_refl _) rfl dX10_helped_1 ?_
  show J 4 [(0, .ref 67)] [.int q1.1] 117 zRF q1.2
  refine zv_istore_n (i := 1) (lv' := [(1, .int q1.1), (0, .ref 67)]) X dX10_helped_4 rfl (Nat.le_of_ble_eq_true rfl) rfl ?_
  refine zv_aload_n X dX10_helped_5 rfl rfl ?_
  refine zb e (fun q2 gq2 e => ?_)
  refine zv_callV (stk := [.ref 67]) (as := []) (st := []) (k := 67) X zl_RX10_329 zm_X10_findTrue (k_X10_findTrue (d := d - 1) (by omega) gq2) (by omega) zb_67 (by rw [zk_67]; rfl) rfl rfl (Nat.le_of_ble_eq_true rfl) (Nat.le_refl _) rfl dX10_helped_6 ?_
  show J 9 [(1, .int q1.1), (0, .ref 67)] [.int q2.1] 117 zRF q2.2
  refine zv_istore_n (i := 2) (lv' := [(2, .int q2.1), (1, .int q1.1), (0, .ref 67)]) X dX10_helped_9 rfl (Nat.le_of_ble_eq_true rfl) rfl ?_
  refine zv_iload_n X dX10_helped_10 rfl rfl ?_
  refine zv_bipush (v := (-9 : Int32)) X dX10_helped_11 zbp_m9 ?_
  refine zv_icmp_eq (tgt := 35) X dX10_helped_13 (by decide) (fun c3 => ?_) (fun c3 => ?_)
  · replace e := zit e c3
    exact zv_pick X [] rfl (k_X10_helped_L35 q hd X  _ e)
  · replace e := zif e c3
    refine zv_iload_n X dX10_helped_16 rfl rfl ?_
    refine zv_bipush (v := (36 : Int32)) X dX10_helped_17 zbp_36 ?_
    refine zv_icmp_gt (tgt := 35) X dX10_helped_19 (by decide) (fun c4 => ?_) (fun c4 => ?_)
    · replace e := zit e c4
      exact zv_pick X [] rfl (k_X10_helped_L35 q hd X  _ e)
    · replace e := zif e c4
      refine zv_aload_n X dX10_helped_22 rfl rfl ?_
      refine zv_getL X zf_RX10_309 zk_67 zb_67 dX10_helped_23 ?_
      refine zv_lconst (v := (0 : Int64)) X dX10_helped_26 rfl ?_
      refine zv_lcmp_ge (tgt := 35) (pc2 := 31) X dX10_helped_27 rfl dX10_helped_28 (by decide) rfl (fun c5 => ?_) (fun c5 => ?_)
      · replace e := zit e c5
        exact zv_pick X [] rfl (k_X10_helped_L35 q hd X  _ e)
      · replace e := zif e c5
        refine zv_iconst (v := (1 : Int32)) X dX10_helped_31 zic_1 ?_
        refine zv_goto (tgt := 36) X dX10_helped_32 (by decide) ?_
        exact zv_pick X [] rfl (k_X10_helped_L36 q hd X _ _ e)
-- X9_refusalsOf
def s_X9_refusalsOf_L22 (b0 : Int32) (h : zHp) : Option (Int32 × zHp) :=
  some (b0, h)
def s_X9_refusalsOf_L20  (h : zHp) : Option (Int32 × zHp) :=
  s_X9_refusalsOf_L22 (-9 : Int32) h
def s_X9_refusalsOf (a1 : Int32) (h : zHp) : Option (Int32 × zHp) :=
  if a1 < (1 : Int32) then
    s_X9_refusalsOf_L20 h
  else
    if (7 : Int32) < a1 then
      s_X9_refusalsOf_L20 h
    else
      (zri h 1 8 a1).bind fun v3 =>
      s_X9_refusalsOf_L22 v3 h
set_option maxRecDepth 100000 in
set_option maxHeartbeats 4000000 in
theorem k_X9_refusalsOf_L22 {l : Launch} {D : va_G} {cy : Nat → ClassId} {S0 d : Nat} {J : zJ} (q : (Int32 × zHp)) (hd : 0 ≤ d) (X : zOK l D cy S0 d RX9 cX9_refusalsOf 2 (yX9_refusalsOf.name == "<init>") 117 117 (some .int) (zRT 117 zRF (some (.int q.1)) q.2) J) : ∀ (b0 : Int32) (h : zHp), s_X9_refusalsOf_L22 b0 h = some q → J 22 [] [.int b0] 117 zRF h := by
  intro b0 h e
  unfold s_X9_refusalsOf_L22 at e
  exact zv_retI X e rfl dX9_refusalsOf_22
set_option maxRecDepth 100000 in
set_option maxHeartbeats 4000000 in
theorem k_X9_refusalsOf_L20 {l : Launch} {D : va_G} {cy : Nat → ClassId} {S0 d : Nat} {J : zJ} (q : (Int32 × zHp)) (hd : 0 ≤ d) (X : zOK l D cy S0 d RX9 cX9_refusalsOf 2 (yX9_refusalsOf.name == "<init>") 117 117 (some .int) (zRT 117 zRF (some (.int q.1)) q.2) J) : ∀  (h : zHp), s_X9_refusalsOf_L20  h = some q → J 20 [] [] 117 zRF h := by
  intro  h e
  unfold s_X9_refusalsOf_L20 at e
  refine zv_bipush (v := (-9 : Int32)) X dX9_refusalsOf_20 zbp_m9 ?_
  exact k_X9_refusalsOf_L22 q hd X _ _ e
set_option maxRecDepth 100000 in
set_option maxHeartbeats 4000000 in
theorem k_X9_refusalsOf {l : Launch} {D : va_G} {cy : Nat → ClassId} {S0 d : Nat} (hd : 0 ≤ d) {a1 : Int32} {h : zHp} {q : (Int32 × zHp)} (e : s_X9_refusalsOf a1 h = some q) : zCT l D cy S0 d yX9_refusalsOf cX9_refusalsOf 2 (some .int) [.ref 0, .int a1] 117 zRF h (some (.int q.1)) 117 zRF q.2 := by
  unfold s_X9_refusalsOf at e
  refine zCT_of RX9 rfl zm_X9_refusalsOf (Nat.le_refl _) (Nat.le_of_ble_eq_true rfl) (fun J X => ?_)
  show J 0 [(0, .ref 0), (1, .int a1)] [] 117 zRF h
  refine zv_iload_n X dX9_refusalsOf_0 rfl rfl ?_
  refine zv_iconst (v := (1 : Int32)) X dX9_refusalsOf_1 zic_1 ?_
  refine zv_icmp_lt (tgt := 20) X dX9_refusalsOf_2 (by decide) (fun c1 => ?_) (fun c1 => ?_)
  · replace e := zit e c1
    exact zv_pick X [] rfl (k_X9_refusalsOf_L20 q hd X  _ e)
  · replace e := zif e c1
    refine zv_iload_n X dX9_refusalsOf_5 rfl rfl ?_
    refine zv_bipush (v := (7 : Int32)) X dX9_refusalsOf_6 zbp_7 ?_
    refine zv_icmp_gt (tgt := 20) X dX9_refusalsOf_8 (by decide) (fun c2 => ?_) (fun c2 => ?_)
    · replace e := zit e c2
      exact zv_pick X [] rfl (k_X9_refusalsOf_L20 q hd X  _ e)
    · replace e := zif e c2
      refine zv_aload_n X dX9_refusalsOf_11 rfl rfl ?_
      refine zv_getR X zf_RX9_9 znt_a zk_0 zb_0 zr_0_0 dX9_refusalsOf_12 ?_
      refine zv_iload_n X dX9_refusalsOf_15 rfl rfl ?_
      refine zb e (fun v3 gv3 e => ?_)
      refine zv_iald X zk_1 zl_1 zb_1 dX9_refusalsOf_16 gv3 ?_
      refine zv_goto (tgt := 22) X dX9_refusalsOf_17 (by decide) ?_
      exact zv_pick X [] rfl (k_X9_refusalsOf_L22 q hd X _ _ e)
-- X1_joinedSize
def s_X1_joinedSize_L25 (k4 : Int32 → Int32 → zHp → Option (Int32 × zHp)) (a1 : Int32) (a2 : Int32) (h : zHp) : Option (Int32 × zHp) :=
  k4 a1 (a2 + (1 : Int32)) h
def s_X1_joinedSize_L4 : Nat → Int32 → Int32 → zHp → Option (Int32 × zHp)
  | 0, _, _, _ => none
  | f + 1, a1, a2, h =>
  if (h.1 52 7) ≤ a2 then
    some (a1, h)
  else
    (s_X1_kitchenOf a2 h).bind fun q2 =>
    if q2.1 = (-9 : Int32) then
      s_X1_joinedSize_L25 (s_X1_joinedSize_L4 f) a1 a2 q2.2
    else
      s_X1_joinedSize_L25 (s_X1_joinedSize_L4 f) (a1 + (1 : Int32)) a2 q2.2
def s_X1_joinedSize  (h : zHp) : Option (Int32 × zHp) :=
  s_X1_joinedSize_L4 zFU (0 : Int32) (0 : Int32) h
set_option maxRecDepth 100000 in
set_option maxHeartbeats 4000000 in
theorem k_X1_joinedSize_L25 {l : Launch} {D : va_G} {cy : Nat → ClassId} {S0 d : Nat} {J : zJ} (q : (Int32 × zHp)) (hd : 5 ≤ d) (X : zOK l D cy S0 d RX1 cX1_joinedSize 3 (yX1_joinedSize.name == "<init>") 117 117 (some .int) (zRT 117 zRF (some (.int q.1)) q.2) J) {k4 : Int32 → Int32 → zHp → Option (Int32 × zHp)} (hk4 : ∀ (a1 : Int32) (a2 : Int32) (h : zHp), k4 a1 a2 h = some q → J 4 [(0, .ref 52), (1, .int a1), (2, .int a2)] [] 117 zRF h) : ∀ (a1 : Int32) (a2 : Int32) (h : zHp), s_X1_joinedSize_L25 k4 a1 a2 h = some q → J 25 [(0, .ref 52), (1, .int a1), (2, .int a2)] [] 117 zRF h := by
  intro a1 a2 h e
  unfold s_X1_joinedSize_L25 at e
  refine zv_iinc (k := 2) (v := a2 + (1 : Int32)) (lv' := [(2, .int (a2 + (1 : Int32))), (0, .ref 52), (1, .int a1)]) X dX1_joinedSize_25 rfl rfl (Nat.le_of_ble_eq_true rfl) rfl ?_
  refine zv_goto (tgt := 4) X dX1_joinedSize_28 (by decide) ?_
  exact zv_pick X [1, 2, 0] rfl (hk4 _ _ _ e)
set_option maxRecDepth 100000 in
set_option maxHeartbeats 4000000 in
theorem k_X1_joinedSize_L4 {l : Launch} {D : va_G} {cy : Nat → ClassId} {S0 d : Nat} {J : zJ} (q : (Int32 × zHp)) (hd : 5 ≤ d) (X : zOK l D cy S0 d RX1 cX1_joinedSize 3 (yX1_joinedSize.name == "<init>") 117 117 (some .int) (zRT 117 zRF (some (.int q.1)) q.2) J) : ∀ (f : Nat) (a1 : Int32) (a2 : Int32) (h : zHp), s_X1_joinedSize_L4 f a1 a2 h = some q → J 4 [(0, .ref 52), (1, .int a1), (2, .int a2)] [] 117 zRF h := by
  intro f
  induction f with
  | zero => intro _ _ h e; exact absurd e (fun z => by cases z)
  | succ f ih =>
    intro a1 a2 h e
    rw [s_X1_joinedSize_L4] at e
    refine zv_iload_n X dX1_joinedSize_4 rfl rfl ?_
    refine zv_aload_n X dX1_joinedSize_5 rfl rfl ?_
    refine zv_getI X zf_RX1_34 zk_52 zb_52 dX1_joinedSize_6 ?_
    refine zv_icmp_ge (tgt := 31) X dX1_joinedSize_9 (by decide) (fun c1 => ?_) (fun c1 => ?_)
    · replace e := zit e c1
      refine zv_iload_n X dX1_joinedSize_31 rfl rfl ?_
      exact zv_retI X e rfl dX1_joinedSize_32
    · replace e := zif e c1
      refine zv_aload_n X dX1_joinedSize_12 rfl rfl ?_
      refine zv_iload_n X dX1_joinedSize_13 rfl rfl ?_
      refine zb e (fun q2 gq2 e => ?_)
      refine zv_callV (stk := [.int a2, .ref 52]) (as := [.int a2]) (st := []) (k := 52) X zl_RX1_55 zm_X1_kitchenOf (k_X1_kitchenOf (d := d - 1) (by omega) gq2) (by omega) zb_52 (by rw [zk_52]; rfl) rfl rfl (Nat.le_of_ble_eq_true rfl) (Nat.le_refl _) rfl dX1_joinedSize_14 ?_
      show J 17 [(0, .ref 52), (1, .int a1), (2, .int a2)] [.int q2.1] 117 zRF q2.2
      refine zv_bipush (v := (-9 : Int32)) X dX1_joinedSize_17 zbp_m9 ?_
      refine zv_icmp_eq (tgt := 25) X dX1_joinedSize_19 (by decide) (fun c3 => ?_) (fun c3 => ?_)
      · replace e := zit e c3
        exact k_X1_joinedSize_L25 q hd X ih _ _ _ e
      · replace e := zif e c3
        refine zv_iinc (k := 1) (v := a1 + (1 : Int32)) (lv' := [(1, .int (a1 + (1 : Int32))), (0, .ref 52), (2, .int a2)]) X dX1_joinedSize_22 rfl rfl (Nat.le_of_ble_eq_true rfl) rfl ?_
        exact zv_pick X [1, 0, 2] rfl (k_X1_joinedSize_L25 q hd X ih _ _ _ e)
set_option maxRecDepth 100000 in
set_option maxHeartbeats 4000000 in
theorem k_X1_joinedSize {l : Launch} {D : va_G} {cy : Nat → ClassId} {S0 d : Nat} (hd : 5 ≤ d) {h : zHp} {q : (Int32 × zHp)} (e : s_X1_joinedSize  h = some q) : zCT l D cy S0 d yX1_joinedSize cX1_joinedSize 3 (some .int) [.ref 52] 117 zRF h (some (.int q.1)) 117 zRF q.2 := by
  unfold s_X1_joinedSize at e
  refine zCT_of RX1 rfl zm_X1_joinedSize (Nat.le_refl _) (Nat.le_of_ble_eq_true rfl) (fun J X => ?_)
  show J 0 [(0, .ref 52)] [] 117 zRF h
  refine zv_iconst (v := (0 : Int32)) X dX1_joinedSize_0 zic_0 ?_
  refine zv_istore_n (i := 1) (lv' := [(1, .int (0 : Int32)), (0, .ref 52)]) X dX1_joinedSize_1 rfl (Nat.le_of_ble_eq_true rfl) rfl ?_
  refine zv_iconst (v := (0 : Int32)) X dX1_joinedSize_2 zic_0 ?_
  refine zv_istore_n (i := 2) (lv' := [(2, .int (0 : Int32)), (1, .int (0 : Int32)), (0, .ref 52)]) X dX1_joinedSize_3 rfl (Nat.le_of_ble_eq_true rfl) rfl ?_
  exact zv_pick X [2, 1, 0] rfl (k_X1_joinedSize_L4 q hd X _ _ _ _ e)
-- X1_size
def s_X1_size  (h : zHp) : Option (Int32 × zHp) :=
  some (h.1 52 7, h)
set_option maxRecDepth 100000 in
set_option maxHeartbeats 4000000 in
theorem k_X1_size {l : Launch} {D : va_G} {cy : Nat → ClassId} {S0 d : Nat} (hd : 0 ≤ d) {h : zHp} {q : (Int32 × zHp)} (e : s_X1_size  h = some q) : zCT l D cy S0 d yX1_size cX1_size 1 (some .int) [.ref 52] 117 zRF h (some (.int q.1)) 117 zRF q.2 := by
  unfold s_X1_size at e
  refine zCT_of RX1 rfl zm_X1_size (Nat.le_refl _) (Nat.le_of_ble_eq_true rfl) (fun J X => ?_)
  show J 0 [(0, .ref 52)] [] 117 zRF h
  refine zv_aload_n X dX1_size_0 rfl rfl ?_
  refine zv_getI X zf_RX1_34 zk_52 zb_52 dX1_size_1 ?_
  exact zv_retI X e rfl dX1_size_4
-- X6_size
def s_X6_size  (h : zHp) : Option (Int32 × zHp) :=
  some (h.1 32 2, h)
set_option maxRecDepth 100000 in
set_option maxHeartbeats 4000000 in
theorem k_X6_size {l : Launch} {D : va_G} {cy : Nat → ClassId} {S0 d : Nat} (hd : 0 ≤ d) {h : zHp} {q : (Int32 × zHp)} (e : s_X6_size  h = some q) : zCT l D cy S0 d yX6_size cX6_size 1 (some .int) [.ref 32] 117 zRF h (some (.int q.1)) 117 zRF q.2 := by
  unfold s_X6_size at e
  refine zCT_of RX6 rfl zm_X6_size (Nat.le_refl _) (Nat.le_of_ble_eq_true rfl) (fun J X => ?_)
  show J 0 [(0, .ref 32)] [] 117 zRF h
  refine zv_aload_n X dX6_size_0 rfl rfl ?_
  refine zv_getI X zf_RX6_18 zk_32 zb_32 dX6_size_1 ?_
  exact zv_retI X e rfl dX6_size_4
-- X5_takenBackSize
def s_X5_takenBackSize  (h : zHp) : Option (Int32 × zHp) :=
  some (h.1 24 9, h)
set_option maxRecDepth 100000 in
set_option maxHeartbeats 4000000 in
theorem k_X5_takenBackSize {l : Launch} {D : va_G} {cy : Nat → ClassId} {S0 d : Nat} (hd : 0 ≤ d) {h : zHp} {q : (Int32 × zHp)} (e : s_X5_takenBackSize  h = some q) : zCT l D cy S0 d yX5_takenBackSize cX5_takenBackSize 1 (some .int) [.ref 24] 117 zRF h (some (.int q.1)) 117 zRF q.2 := by
  unfold s_X5_takenBackSize at e
  refine zCT_of RX5 rfl zm_X5_takenBackSize (Nat.le_refl _) (Nat.le_of_ble_eq_true rfl) (fun J X => ?_)
  show J 0 [(0, .ref 24)] [] 117 zRF h
  refine zv_aload_n X dX5_takenBackSize_0 rfl rfl ?_
  refine zv_getI X zf_RX5_37 zk_24 zb_24 dX5_takenBackSize_1 ?_
  exact zv_retI X e rfl dX5_takenBackSize_4
-- X9_count
def s_X9_count (a1 : Int32) (h : zHp) : Option (Int32 × zHp) :=
  if a1 = (0 : Int32) then
    some (h.1 0 14, h)
  else
  if a1 = (1 : Int32) then
    (s_X0_size h).bind fun q3 =>
    some (q3.1, q3.2)
  else
  if a1 = (2 : Int32) then
    (s_X4_size h).bind fun q5 =>
    some (q5.1, q5.2)
  else
  if a1 = (3 : Int32) then
    (s_X5_size h).bind fun q7 =>
    some (q7.1, q7.2)
  else
  if a1 = (4 : Int32) then
    (s_X5_takenBackSize h).bind fun q9 =>
    some (q9.1, q9.2)
  else
  if a1 = (5 : Int32) then
    (s_X6_size h).bind fun q11 =>
    some (q11.1, q11.2)
  else
  if a1 = (6 : Int32) then
    (s_X1_size h).bind fun q13 =>
    some (q13.1, q13.2)
  else
  if a1 = (7 : Int32) then
    (s_X1_joinedSize h).bind fun q15 =>
    some (q15.1, q15.2)
  else
    (s_X9_refusalsOf (a1 - (10 : Int32)) h).bind fun q16 =>
    some (q16.1, q16.2)
set_option maxRecDepth 100000 in
set_option maxHeartbeats 4000000 in
theorem k_X9_count {l : Launch} {D : va_G} {cy : Nat → ClassId} {S0 d : Nat} (hd : 6 ≤ d) {a1 : Int32} {h : zHp} {q : (Int32 × zHp)} (e : s_X9_count a1 h = some q) : zCT l D cy S0 d yX9_count cX9_count 2 (some .int) [.ref 0, .int a1] 117 zRF h (some (.int q.1)) 117 zRF q.2 := by
  unfold s_X9_count at e
  refine zCT_of RX9 rfl zm_X9_count (Nat.le_refl _) (Nat.le_of_ble_eq_true rfl) (fun J X => ?_)
  show J 0 [(0, .ref 0), (1, .int a1)] [] 117 zRF h
  refine zv_iload_n X dX9_count_0 rfl rfl ?_
  by_cases c1 : a1 = (0 : Int32)
  · replace e := zit e c1
    refine zv_tabIn (off := 47) (tgt := 48) X dX9_count_1 (by rw [c1]; decide) (by rw [c1]; decide) (by rw [c1]; decide) (by decide) ?_
    refine zv_aload_n X dX9_count_48 rfl rfl ?_
    refine zv_getI X zf_RX9_95 zk_0 zb_0 dX9_count_49 ?_
    exact zv_retI X e rfl dX9_count_52
  replace e := zif e c1
  by_cases c2 : a1 = (1 : Int32)
  · replace e := zit e c2
    refine zv_tabIn (off := 52) (tgt := 53) X dX9_count_1 (by rw [c2]; decide) (by rw [c2]; decide) (by rw [c2]; decide) (by decide) ?_
    refine zv_aload_n X dX9_count_53 rfl rfl ?_
    refine zv_getR X zf_RX9_29 znt_o zk_0 zb_0 zr_0_5 dX9_count_54 ?_
    refine zb e (fun q3 gq3 e => ?_)
    refine zv_callV (stk := [.ref 6]) (as := []) (st := []) (k := 6) X zl_RX9_286 zm_X0_size (k_X0_size (d := d - 1) (by omega) gq3) (by omega) zb_6 (by rw [zk_6]; rfl) rfl rfl (Nat.le_of_ble_eq_true rfl) (Nat.le_refl _) rfl dX9_count_57 ?_
    show J 60 [(0, .ref 0), (1, .int a1)] [.int q3.1] 117 zRF q3.2
    exact zv_retI X e rfl dX9_count_60
  replace e := zif e c2
  by_cases c4 : a1 = (2 : Int32)
  · replace e := zit e c4
    refine zv_tabIn (off := 60) (tgt := 61) X dX9_count_1 (by rw [c4]; decide) (by rw [c4]; decide) (by rw [c4]; decide) (by decide) ?_
    refine zv_aload_n X dX9_count_61 rfl rfl ?_
    refine zv_getR X zf_RX9_36 znt_o zk_0 zb_0 zr_0_6 dX9_count_62 ?_
    refine zb e (fun q5 gq5 e => ?_)
    refine zv_callV (stk := [.ref 13]) (as := []) (st := []) (k := 13) X zl_RX9_199 zm_X4_size (k_X4_size (d := d - 1) (by omega) gq5) (by omega) zb_13 (by rw [zk_13]; rfl) rfl rfl (Nat.le_of_ble_eq_true rfl) (Nat.le_refl _) rfl dX9_count_65 ?_
    show J 68 [(0, .ref 0), (1, .int a1)] [.int q5.1] 117 zRF q5.2
    exact zv_retI X e rfl dX9_count_68
  replace e := zif e c4
  by_cases c6 : a1 = (3 : Int32)
  · replace e := zit e c6
    refine zv_tabIn (off := 68) (tgt := 69) X dX9_count_1 (by rw [c6]; decide) (by rw [c6]; decide) (by rw [c6]; decide) (by decide) ?_
    refine zv_aload_n X dX9_count_69 rfl rfl ?_
    refine zv_getR X zf_RX9_45 znt_o zk_0 zb_0 zr_0_7 dX9_count_70 ?_
    refine zb e (fun q7 gq7 e => ?_)
    refine zv_callV (stk := [.ref 24]) (as := []) (st := []) (k := 24) X zl_RX9_164 zm_X5_size (k_X5_size (d := d - 1) (by omega) gq7) (by omega) zb_24 (by rw [zk_24]; rfl) rfl rfl (Nat.le_of_ble_eq_true rfl) (Nat.le_refl _) rfl dX9_count_73 ?_
    show J 76 [(0, .ref 0), (1, .int a1)] [.int q7.1] 117 zRF q7.2
    exact zv_retI X e rfl dX9_count_76
  replace e := zif e c6
  by_cases c8 : a1 = (4 : Int32)
  · replace e := zit e c8
    refine zv_tabIn (off := 76) (tgt := 77) X dX9_count_1 (by rw [c8]; decide) (by rw [c8]; decide) (by rw [c8]; decide) (by decide) ?_
    refine zv_aload_n X dX9_count_77 rfl rfl ?_
    refine zv_getR X zf_RX9_45 znt_o zk_0 zb_0 zr_0_7 dX9_count_78 ?_
    refine zb e (fun q9 gq9 e => ?_)
    refine zv_callV (stk := [.ref 24]) (as := []) (st := []) (k := 24) X zl_RX9_287 zm_X5_takenBackSize (k_X5_takenBackSize (d := d - 1) (by omega) gq9) (by omega) zb_24 (by rw [zk_24]; rfl) rfl rfl (Nat.le_of_ble_eq_true rfl) (Nat.le_refl _) rfl dX9_count_81 ?_
    show J 84 [(0, .ref 0), (1, .int a1)] [.int q9.1] 117 zRF q9.2
    exact zv_retI X e rfl dX9_count_84
  replace e := zif e c8
  by_cases c10 : a1 = (5 : Int32)
  · replace e := zit e c10
    refine zv_tabIn (off := 84) (tgt := 85) X dX9_count_1 (by rw [c10]; decide) (by rw [c10]; decide) (by rw [c10]; decide) (by decide) ?_
    refine zv_aload_n X dX9_count_85 rfl rfl ?_
    refine zv_getR X zf_RX9_52 znt_o zk_0 zb_0 zr_0_8 dX9_count_86 ?_
    refine zb e (fun q11 gq11 e => ?_)
    refine zv_callV (stk := [.ref 32]) (as := []) (st := []) (k := 32) X zl_RX9_290 zm_X6_size (k_X6_size (d := d - 1) (by omega) gq11) (by omega) zb_32 (by rw [zk_32]; rfl) rfl rfl (Nat.le_of_ble_eq_true rfl) (Nat.le_refl _) rfl dX9_count_89 ?_
    show J 92 [(0, .ref 0), (1, .int a1)] [.int q11.1] 117 zRF q11.2
    exact zv_retI X e rfl dX9_count_92
  replace e := zif e c10
  by_cases c12 : a1 = (6 : Int32)
  · replace e := zit e c12
    refine zv_tabIn (off := 92) (tgt := 93) X dX9_count_1 (by rw [c12]; decide) (by rw [c12]; decide) (by rw [c12]; decide) (by decide) ?_
    refine zv_aload_n X dX9_count_93 rfl rfl ?_
    refine zv_getR X zf_RX9_77 znt_o zk_0 zb_0 zr_0_11 dX9_count_94 ?_
    refine zb e (fun q13 gq13 e => ?_)
    refine zv_callV (stk := [.ref 52]) (as := []) (st := []) (k := 52) X zl_RX9_291 zm_X1_size (k_X1_size (d := d - 1) (by omega) gq13) (by omega) zb_52 (by rw [zk_52]; rfl) rfl rfl (Nat.le_of_ble_eq_true rfl) (Nat.le_refl _) rfl dX9_count_97 ?_
    show J 100 [(0, .ref 0), (1, .int a1)] [.int q13.1] 117 zRF q13.2
    exact zv_retI X e rfl dX9_count_100
  replace e := zif e c12
  by_cases c14 : a1 = (7 : Int32)
  · replace e := zit e c14
    refine zv_tabIn (off := 100) (tgt := 101) X dX9_count_1 (by rw [c14]; decide) (by rw [c14]; decide) (by rw [c14]; decide) (by decide) ?_
    refine zv_aload_n X dX9_count_101 rfl rfl ?_
    refine zv_getR X zf_RX9_77 znt_o zk_0 zb_0 zr_0_11 dX9_count_102 ?_
    refine zb e (fun q15 gq15 e => ?_)
    refine zv_callV (stk := [.ref 52]) (as := []) (st := []) (k := 52) X zl_RX9_292 zm_X1_joinedSize (k_X1_joinedSize (d := d - 1) (by omega) gq15) (by omega) zb_52 (by rw [zk_52]; rfl) rfl rfl (Nat.le_of_ble_eq_true rfl) (Nat.le_refl _) rfl dX9_count_105 ?_
    show J 108 [(0, .ref 0), (1, .int a1)] [.int q15.1] 117 zRF q15.2
    exact zv_retI X e rfl dX9_count_108
  replace e := zif e c14
  refine zv_tabOut (tgt := 109) X dX9_count_1 (by have := lv_neT (a := 0) c1 (by decide); have := lv_neT (a := 1) c2 (by decide); have := lv_neT (a := 2) c4 (by decide); have := lv_neT (a := 3) c6 (by decide); have := lv_neT (a := 4) c8 (by decide); have := lv_neT (a := 5) c10 (by decide); have := lv_neT (a := 6) c12 (by decide); have := lv_neT (a := 7) c14 (by decide); omega) (by decide) ?_
  refine zv_aload_n X dX9_count_109 rfl rfl ?_
  refine zv_iload_n X dX9_count_110 rfl rfl ?_
  refine zv_bipush (v := (10 : Int32)) X dX9_count_111 zbp_10 ?_
  refine zv_isub X dX9_count_113 ?_
  refine zb e (fun q16 gq16 e => ?_)
  refine zv_callV (stk := [.int (a1 - (10 : Int32)), .ref 0]) (as := [.int (a1 - (10 : Int32))]) (st := []) (k := 0) X zl_RX9_295 zm_X9_refusalsOf (k_X9_refusalsOf (d := d - 1) (by omega) gq16) (by omega) zb_0 (by rw [zk_0]; rfl) rfl rfl (Nat.le_of_ble_eq_true rfl) (Nat.le_refl _) rfl dX9_count_114 ?_
  show J 117 [(0, .ref 0), (1, .int a1)] [.int q16.1] 117 zRF q16.2
  exact zv_retI X e rfl dX9_count_117
-- X10_count
def s_X10_count_L172 (b0 : Int32) (h : zHp) : Option (Int32 × zHp) :=
  some (b0, h)
def s_X10_count_L137 (k115 : Int32 → Int32 → zHp → Option (Int32 × zHp)) (a3 : Int32) (b0 : Int32) (b1 : Int32) (h : zHp) : Option (Int32 × zHp) :=
  (some (b0 + b1)).bind fun v1 =>
  k115 v1 (a3 + (1 : Int32)) h
def s_X10_count_L115 : Nat → Int32 → Int32 → zHp → Option (Int32 × zHp)
  | 0, _, _, _ => none
  | f + 1, a2, a3, h =>
  if (h.1 67 51) ≤ a3 then
    some (a2, h)
  else
    (s_X10_joinedTo a3 h).bind fun q2 =>
    if q2.1 < 0 then
      s_X10_count_L137 (s_X10_count_L115 f) a3 a2 (0 : Int32) q2.2
    else
      s_X10_count_L137 (s_X10_count_L115 f) a3 a2 (1 : Int32) q2.2
def s_X10_count_L93 (k70 : Int32 → Int32 → zHp → Option (Int32 × zHp)) (a3 : Int32) (b0 : Int32) (b1 : Int32) (h : zHp) : Option (Int32 × zHp) :=
  (some (b0 + b1)).bind fun v1 =>
  k70 v1 (a3 + (1 : Int32)) h
def s_X10_count_L70 : Nat → Int32 → Int32 → zHp → Option (Int32 × zHp)
  | 0, _, _, _ => none
  | f + 1, a2, a3, h =>
  if (h.1 67 17) ≤ a3 then
    some (a2, h)
  else
    (zri h 86 80 a3).bind fun v2 =>
    if v2 < 0 then
      s_X10_count_L93 (s_X10_count_L70 f) a3 a2 (0 : Int32) h
    else
      s_X10_count_L93 (s_X10_count_L70 f) a3 a2 (1 : Int32) h
def s_X10_count (a1 : Int32) (h : zHp) : Option (Int32 × zHp) :=
  if a1 = (0 : Int32) then
    some (h.1 67 0, h)
  else
  if a1 = (1 : Int32) then
    some (h.1 67 1, h)
  else
  if a1 = (2 : Int32) then
    some (h.1 67 8, h)
  else
  if a1 = (3 : Int32) then
    some (h.1 67 17, h)
  else
  if a1 = (4 : Int32) then
    s_X10_count_L70 zFU (0 : Int32) (0 : Int32) h
  else
  if a1 = (5 : Int32) then
    some (h.1 67 26, h)
  else
  if a1 = (6 : Int32) then
    some (h.1 67 51, h)
  else
  if a1 = (7 : Int32) then
    s_X10_count_L115 zFU (0 : Int32) (0 : Int32) h
  else
    (s_X10_in a1 (11 : Int32) (17 : Int32) h).bind fun q9 =>
    if q9.1 = 0 then
      s_X10_count_L172 (-9 : Int32) q9.2
    else
      (zri q9.2 88 8 (a1 - (10 : Int32))).bind fun v11 =>
      s_X10_count_L172 v11 q9.2
set_option maxRecDepth 100000 in
set_option maxHeartbeats 4000000 in
theorem k_X10_count_L172 {l : Launch} {D : va_G} {cy : Nat → ClassId} {S0 d : Nat} {J : zJ} (q : (Int32 × zHp)) (hd : 4 ≤ d) (X : zOK l D cy S0 d RX10 cX10_count 4 (yX10_count.name == "<init>") 117 117 (some .int) (zRT 117 zRF (some (.int q.1)) q.2) J) : ∀ (b0 : Int32) (h : zHp), s_X10_count_L172 b0 h = some q → J 172 [] [.int b0] 117 zRF h := by
  intro b0 h e
  unfold s_X10_count_L172 at e
  exact zv_retI X e rfl dX10_count_172
set_option maxRecDepth 100000 in
set_option maxHeartbeats 4000000 in
theorem k_X10_count_L137 {l : Launch} {D : va_G} {cy : Nat → ClassId} {S0 d : Nat} {J : zJ} (q : (Int32 × zHp)) (hd : 4 ≤ d) (X : zOK l D cy S0 d RX10 cX10_count 4 (yX10_count.name == "<init>") 117 117 (some .int) (zRT 117 zRF (some (.int q.1)) q.2) J) {k115 : Int32 → Int32 → zHp → Option (Int32 × zHp)} (hk115 : ∀ (a2 : Int32) (a3 : Int32) (h : zHp), k115 a2 a3 h = some q → J 115 [(0, .ref 67), (2, .int a2), (3, .int a3)] [] 117 zRF h) : ∀ (a3 : Int32) (b0 : Int32) (b1 : Int32) (h : zHp), s_X10_count_L137 k115 a3 b0 b1 h = some q → J 137 [(0, .ref 67), (3, .int a3)] [.int b1, .int b0] 117 zRF h := by
  intro a3 b0 b1 h e
  unfold s_X10_count_L137 at e
  refine zv_iadd X dX10_count_137 ?_
  refine zb e (fun v1 gv1 e => ?_)
  refine zv_nmI X gv1 ?_
  refine zv_istore_n (i := 2) (lv' := [(2, .int v1), (0, .ref 67), (3, .int a3)]) X dX10_count_138 rfl (Nat.le_of_ble_eq_true rfl) rfl ?_
  refine zv_iinc (k := 2) (v := a3 + (1 : Int32)) (lv' := [(3, .int (a3 + (1 : Int32))), (2, .int v1), (0, .ref 67)]) X dX10_count_139 rfl rfl (Nat.le_of_ble_eq_true rfl) rfl ?_
  refine zv_goto (tgt := 115) X dX10_count_142 (by decide) ?_
  exact zv_pick X [2, 1, 0] rfl (hk115 _ _ _ e)
set_option maxRecDepth 100000 in
set_option maxHeartbeats 4000000 in
theorem k_X10_count_L115 {l : Launch} {D : va_G} {cy : Nat → ClassId} {S0 d : Nat} {J : zJ} (q : (Int32 × zHp)) (hd : 4 ≤ d) (X : zOK l D cy S0 d RX10 cX10_count 4 (yX10_count.name == "<init>") 117 117 (some .int) (zRT 117 zRF (some (.int q.1)) q.2) J) : ∀ (f : Nat) (a2 : Int32) (a3 : Int32) (h : zHp), s_X10_count_L115 f a2 a3 h = some q → J 115 [(0, .ref 67), (2, .int a2), (3, .int a3)] [] 117 zRF h := by
  intro f
  induction f with
  | zero => intro _ _ h e; exact absurd e (fun z => by cases z)
  | succ f ih =>
    intro a2 a3 h e
    rw [s_X10_count_L115] at e
    refine zv_iload_n X dX10_count_115 rfl rfl ?_
    refine zv_aload_n X dX10_count_116 rfl rfl ?_
    refine zv_getI X zf_RX10_295 zk_67 zb_67 dX10_count_117 ?_
    refine zv_icmp_ge (tgt := 145) X dX10_count_120 (by decide) (fun c1 => ?_) (fun c1 => ?_)
    · replace e := zit e c1
      refine zv_iload_n X dX10_count_145 rfl rfl ?_
      exact zv_retI X e rfl dX10_count_146
    · replace e := zif e c1
      refine zv_iload_n X dX10_count_123 rfl rfl ?_
      refine zv_aload_n X dX10_count_124 rfl rfl ?_
      refine zv_iload_n X dX10_count_125 rfl rfl ?_
      refine zb e (fun q2 gq2 e => ?_)
      refine zv_callV (stk := [.int a3, .ref 67, .int a2]) (as := [.int a3]) (st := [.int a2]) (k := 67) X zl_RX10_306 zm_X10_joinedTo (k_X10_joinedTo (d := d - 1) (by omega) gq2) (by omega) zb_67 (by rw [zk_67]; rfl) rfl rfl (Nat.le_of_ble_eq_true rfl) (Nat.le_refl _) rfl dX10_count_126 ?_
      show J 129 [(0, .ref 67), (2, .int a2), (3, .int a3)] [.int q2.1, .int a2] 117 zRF q2.2
      refine zv_if_lt (tgt := 136) X dX10_count_129 (by decide) (fun c3 => ?_) (fun c3 => ?_)
      · replace e := zit e c3
        refine zv_iconst (v := (0 : Int32)) X dX10_count_136 zic_0 ?_
        exact zv_pick X [0, 2] rfl (k_X10_count_L137 q hd X ih _ _ _ _ e)
      · replace e := zif e c3
        refine zv_iconst (v := (1 : Int32)) X dX10_count_132 zic_1 ?_
        refine zv_goto (tgt := 137) X dX10_count_133 (by decide) ?_
        exact zv_pick X [0, 2] rfl (k_X10_count_L137 q hd X ih _ _ _ _ e)
set_option maxRecDepth 100000 in
set_option maxHeartbeats 4000000 in
theorem k_X10_count_L93 {l : Launch} {D : va_G} {cy : Nat → ClassId} {S0 d : Nat} {J : zJ} (q : (Int32 × zHp)) (hd : 4 ≤ d) (X : zOK l D cy S0 d RX10 cX10_count 4 (yX10_count.name == "<init>") 117 117 (some .int) (zRT 117 zRF (some (.int q.1)) q.2) J) {k70 : Int32 → Int32 → zHp → Option (Int32 × zHp)} (hk70 : ∀ (a2 : Int32) (a3 : Int32) (h : zHp), k70 a2 a3 h = some q → J 70 [(0, .ref 67), (2, .int a2), (3, .int a3)] [] 117 zRF h) : ∀ (a3 : Int32) (b0 : Int32) (b1 : Int32) (h : zHp), s_X10_count_L93 k70 a3 b0 b1 h = some q → J 93 [(0, .ref 67), (3, .int a3)] [.int b1, .int b0] 117 zRF h := by
  intro a3 b0 b1 h e
  unfold s_X10_count_L93 at e
  refine zv_iadd X dX10_count_93 ?_
  refine zb e (fun v1 gv1 e => ?_)
  refine zv_nmI X gv1 ?_
  refine zv_istore_n (i := 2) (lv' := [(2, .int v1), (0, .ref 67), (3, .int a3)]) X dX10_count_94 rfl (Nat.le_of_ble_eq_true rfl) rfl ?_
  refine zv_iinc (k := 2) (v := a3 + (1 : Int32)) (lv' := [(3, .int (a3 + (1 : Int32))), (2, .int v1), (0, .ref 67)]) X dX10_count_95 rfl rfl (Nat.le_of_ble_eq_true rfl) rfl ?_
  refine zv_goto (tgt := 70) X dX10_count_98 (by decide) ?_
  exact zv_pick X [2, 1, 0] rfl (hk70 _ _ _ e)
set_option maxRecDepth 100000 in
set_option maxHeartbeats 4000000 in
theorem k_X10_count_L70 {l : Launch} {D : va_G} {cy : Nat → ClassId} {S0 d : Nat} {J : zJ} (q : (Int32 × zHp)) (hd : 4 ≤ d) (X : zOK l D cy S0 d RX10 cX10_count 4 (yX10_count.name == "<init>") 117 117 (some .int) (zRT 117 zRF (some (.int q.1)) q.2) J) : ∀ (f : Nat) (a2 : Int32) (a3 : Int32) (h : zHp), s_X10_count_L70 f a2 a3 h = some q → J 70 [(0, .ref 67), (2, .int a2), (3, .int a3)] [] 117 zRF h := by
  intro f
  induction f with
  | zero => intro _ _ h e; exact absurd e (fun z => by cases z)
  | succ f ih =>
    intro a2 a3 h e
    rw [s_X10_count_L70] at e
    refine zv_iload_n X dX10_count_70 rfl rfl ?_
    refine zv_aload_n X dX10_count_71 rfl rfl ?_
    refine zv_getI X zf_RX10_172 zk_67 zb_67 dX10_count_72 ?_
    refine zv_icmp_ge (tgt := 101) X dX10_count_75 (by decide) (fun c1 => ?_) (fun c1 => ?_)
    · replace e := zit e c1
      refine zv_iload_n X dX10_count_101 rfl rfl ?_
      exact zv_retI X e rfl dX10_count_102
    · replace e := zif e c1
      refine zv_iload_n X dX10_count_78 rfl rfl ?_
      refine zv_aload_n X dX10_count_79 rfl rfl ?_
      refine zv_getR X zf_RX10_65 znt_a zk_67 zb_67 zr_67_22 dX10_count_80 ?_
      refine zv_iload_n X dX10_count_83 rfl rfl ?_
      refine zb e (fun v2 gv2 e => ?_)
      refine zv_iald X zk_86 zl_86 zb_86 dX10_count_84 gv2 ?_
      refine zv_if_lt (tgt := 92) X dX10_count_85 (by decide) (fun c3 => ?_) (fun c3 => ?_)
      · replace e := zit e c3
        refine zv_iconst (v := (0 : Int32)) X dX10_count_92 zic_0 ?_
        exact zv_pick X [0, 2] rfl (k_X10_count_L93 q hd X ih _ _ _ _ e)
      · replace e := zif e c3
        refine zv_iconst (v := (1 : Int32)) X dX10_count_88 zic_1 ?_
        refine zv_goto (tgt := 93) X dX10_count_89 (by decide) ?_
        exact zv_pick X [0, 2] rfl (k_X10_count_L93 q hd X ih _ _ _ _ e)
set_option maxRecDepth 100000 in
set_option maxHeartbeats 4000000 in
theorem k_X10_count {l : Launch} {D : va_G} {cy : Nat → ClassId} {S0 d : Nat} (hd : 4 ≤ d) {a1 : Int32} {h : zHp} {q : (Int32 × zHp)} (e : s_X10_count a1 h = some q) : zCT l D cy S0 d yX10_count cX10_count 4 (some .int) [.ref 67, .int a1] 117 zRF h (some (.int q.1)) 117 zRF q.2 := by
  unfold s_X10_count at e
  refine zCT_of RX10 rfl zm_X10_count (Nat.le_refl _) (Nat.le_of_ble_eq_true rfl) (fun J X => ?_)
  show J 0 [(0, .ref 67), (1, .int a1)] [] 117 zRF h
  refine zv_iconst (v := (0 : Int32)) X dX10_count_0 zic_0 ?_
  refine zv_istore_n (i := 2) (lv' := [(2, .int (0 : Int32)), (0, .ref 67), (1, .int a1)]) X dX10_count_1 rfl (Nat.le_of_ble_eq_true rfl) rfl ?_
  refine zv_iload_n X dX10_count_2 rfl rfl ?_
  by_cases c1 : a1 = (0 : Int32)
  · replace e := zit e c1
    refine zv_tabIn (off := 45) (tgt := 48) X dX10_count_3 (by rw [c1]; decide) (by rw [c1]; decide) (by rw [c1]; decide) (by decide) ?_
    refine zv_aload_n X dX10_count_48 rfl rfl ?_
    refine zv_getI X zf_RX10_179 zk_67 zb_67 dX10_count_49 ?_
    exact zv_retI X e rfl dX10_count_52
  replace e := zif e c1
  by_cases c2 : a1 = (1 : Int32)
  · replace e := zit e c2
    refine zv_tabIn (off := 50) (tgt := 53) X dX10_count_3 (by rw [c2]; decide) (by rw [c2]; decide) (by rw [c2]; decide) (by decide) ?_
    refine zv_aload_n X dX10_count_53 rfl rfl ?_
    refine zv_getI X zf_RX10_182 zk_67 zb_67 dX10_count_54 ?_
    exact zv_retI X e rfl dX10_count_57
  replace e := zif e c2
  by_cases c3 : a1 = (2 : Int32)
  · replace e := zit e c3
    refine zv_tabIn (off := 55) (tgt := 58) X dX10_count_3 (by rw [c3]; decide) (by rw [c3]; decide) (by rw [c3]; decide) (by decide) ?_
    refine zv_aload_n X dX10_count_58 rfl rfl ?_
    refine zv_getI X zf_RX10_165 zk_67 zb_67 dX10_count_59 ?_
    exact zv_retI X e rfl dX10_count_62
  replace e := zif e c3
  by_cases c4 : a1 = (3 : Int32)
  · replace e := zit e c4
    refine zv_tabIn (off := 60) (tgt := 63) X dX10_count_3 (by rw [c4]; decide) (by rw [c4]; decide) (by rw [c4]; decide) (by decide) ?_
    refine zv_aload_n X dX10_count_63 rfl rfl ?_
    refine zv_getI X zf_RX10_172 zk_67 zb_67 dX10_count_64 ?_
    exact zv_retI X e rfl dX10_count_67
  replace e := zif e c4
  by_cases c5 : a1 = (4 : Int32)
  · replace e := zit e c5
    refine zv_tabIn (off := 65) (tgt := 68) X dX10_count_3 (by rw [c5]; decide) (by rw [c5]; decide) (by rw [c5]; decide) (by decide) ?_
    refine zv_iconst (v := (0 : Int32)) X dX10_count_68 zic_0 ?_
    refine zv_istore_n (i := 3) (lv' := [(3, .int (0 : Int32)), (2, .int (0 : Int32)), (0, .ref 67), (1, .int a1)]) X dX10_count_69 rfl (Nat.le_of_ble_eq_true rfl) rfl ?_
    exact zv_pick X [2, 1, 0] rfl (k_X10_count_L70 q hd X _ _ _ _ e)
  replace e := zif e c5
  by_cases c6 : a1 = (5 : Int32)
  · replace e := zit e c6
    refine zv_tabIn (off := 100) (tgt := 103) X dX10_count_3 (by rw [c6]; decide) (by rw [c6]; decide) (by rw [c6]; decide) (by decide) ?_
    refine zv_aload_n X dX10_count_103 rfl rfl ?_
    refine zv_getI X zf_RX10_205 zk_67 zb_67 dX10_count_104 ?_
    exact zv_retI X e rfl dX10_count_107
  replace e := zif e c6
  by_cases c7 : a1 = (6 : Int32)
  · replace e := zit e c7
    refine zv_tabIn (off := 105) (tgt := 108) X dX10_count_3 (by rw [c7]; decide) (by rw [c7]; decide) (by rw [c7]; decide) (by decide) ?_
    refine zv_aload_n X dX10_count_108 rfl rfl ?_
    refine zv_getI X zf_RX10_295 zk_67 zb_67 dX10_count_109 ?_
    exact zv_retI X e rfl dX10_count_112
  replace e := zif e c7
  by_cases c8 : a1 = (7 : Int32)
  · replace e := zit e c8
    refine zv_tabIn (off := 110) (tgt := 113) X dX10_count_3 (by rw [c8]; decide) (by rw [c8]; decide) (by rw [c8]; decide) (by decide) ?_
    refine zv_iconst (v := (0 : Int32)) X dX10_count_113 zic_0 ?_
    refine zv_istore_n (i := 3) (lv' := [(3, .int (0 : Int32)), (2, .int (0 : Int32)), (0, .ref 67), (1, .int a1)]) X dX10_count_114 rfl (Nat.le_of_ble_eq_true rfl) rfl ?_
    exact zv_pick X [2, 1, 0] rfl (k_X10_count_L115 q hd X _ _ _ _ e)
  replace e := zif e c8
  refine zv_tabOut (tgt := 147) X dX10_count_3 (by have := lv_neT (a := 0) c1 (by decide); have := lv_neT (a := 1) c2 (by decide); have := lv_neT (a := 2) c3 (by decide); have := lv_neT (a := 3) c4 (by decide); have := lv_neT (a := 4) c5 (by decide); have := lv_neT (a := 5) c6 (by decide); have := lv_neT (a := 6) c7 (by decide); have := lv_neT (a := 7) c8 (by decide); omega) (by decide) ?_
  refine zv_iload_n X dX10_count_147 rfl rfl ?_
  refine zv_bipush (v := (11 : Int32)) X dX10_count_148 zbp_11 ?_
  refine zv_bipush (v := (17 : Int32)) X dX10_count_150 zbp_17 ?_
  refine zb e (fun q9 gq9 e => ?_)
  refine zv_callS (stk := [.int (17 : Int32), .int (11 : Int32), .int a1]) (as := [.int a1, .int (11 : Int32), .int (17 : Int32)]) (st := []) X zl_RX10_168 zm_X10_in (k_X10_in (d := d - 1) (by omega) gq9) (by omega) rfl (Nat.le_of_ble_eq_true rfl) (Nat.le_refl _) rfl dX10_count_152 ?_
  show J 155 [(2, .int (0 : Int32)), (0, .ref 67), (1, .int a1)] [.int q9.1] 117 zRF q9.2
  refine zv_if_eq (tgt := 170) X dX10_count_155 (by decide) (fun c10 => ?_) (fun c10 => ?_)
  · replace e := zit e c10
    refine zv_bipush (v := (-9 : Int32)) X dX10_count_170 zbp_m9 ?_
    exact zv_pick X [] rfl (k_X10_count_L172 q hd X _ _ e)
  · replace e := zif e c10
    refine zv_aload_n X dX10_count_158 rfl rfl ?_
    refine zv_getR X zf_RX10_71 znt_a zk_67 zb_67 zr_67_24 dX10_count_159 ?_
    refine zv_iload_n X dX10_count_162 rfl rfl ?_
    refine zv_bipush (v := (10 : Int32)) X dX10_count_163 zbp_10 ?_
    refine zv_isub X dX10_count_165 ?_
    refine zb e (fun v11 gv11 e => ?_)
    refine zv_iald X zk_88 zl_88 zb_88 dX10_count_166 gv11 ?_
    refine zv_goto (tgt := 172) X dX10_count_167 (by decide) ?_
    exact zv_pick X [] rfl (k_X10_count_L172 q hd X _ _ e)
-- J7_fill_53178_10
def s_J7_fill_53178_10_L5 : Nat → Int32 → Int32 → Int32 → zHp → Option zHp
  | 0, _, _, _, _ => none
  | f + 1, a1, a2, a3, h =>
  if a3 ≤ a2 then
    some h
  else
    (zui h 10 40 a2 a1).bind fun h2 =>
    s_J7_fill_53178_10_L5 f a1 (a2 + (1 : Int32)) a3 h2
def s_J7_fill_53178_10 (a1 : Int32) (h : zHp) : Option zHp :=
  s_J7_fill_53178_10_L5 zFU a1 (0 : Int32) (40 : Int32) h
set_option maxRecDepth 100000 in
set_option maxHeartbeats 4000000 in
theorem k_J7_fill_53178_10_L5 {l : Launch} {D : va_G} {cy : Nat → ClassId} {S0 d : Nat} {N : Nat} {rf : zRf} (hkN : 10 < N) {J : zJ} (q : zHp) (hd : 0 ≤ d) (X : zOK l D cy S0 d RJ7 cJ7_fill_53178 4 (yJ7_fill_53178.name == "<init>") N N none (zRT N rf none q) J) : ∀ (f : Nat) (a1 : Int32) (a2 : Int32) (a3 : Int32) (h : zHp), s_J7_fill_53178_10_L5 f a1 a2 a3 h = some q → J 5 [(0, .ref 10), (1, .int a1), (2, .int a2), (3, .int a3)] [] N rf h := by
  intro f
  induction f with
  | zero => intro _ _ _ h e; exact absurd e (fun z => by cases z)
  | succ f ih =>
    intro a1 a2 a3 h e
    rw [s_J7_fill_53178_10_L5] at e
    refine zv_iload_n X dJ7_fill_53178_5 rfl rfl ?_
    refine zv_iload_n X dJ7_fill_53178_6 rfl rfl ?_
    refine zv_icmp_ge (tgt := 20) X dJ7_fill_53178_7 (by decide) (fun c1 => ?_) (fun c1 => ?_)
    · replace e := zit e c1
      exact zv_retV X e rfl dJ7_fill_53178_20
    · replace e := zif e c1
      refine zv_aload_n X dJ7_fill_53178_10 rfl rfl ?_
      refine zv_iload_n X dJ7_fill_53178_11 rfl rfl ?_
      refine zv_iload_n X dJ7_fill_53178_12 rfl rfl ?_
      refine zb e (fun h2 gh2 e => ?_)
      refine zv_iast X zk_10 zl_10 hkN dJ7_fill_53178_13 gh2 ?_
      refine zv_iinc (k := 2) (v := a2 + (1 : Int32)) (lv' := [(2, .int (a2 + (1 : Int32))), (0, .ref 10), (1, .int a1), (3, .int a3)]) X dJ7_fill_53178_14 rfl rfl (Nat.le_of_ble_eq_true rfl) rfl ?_
      refine zv_goto (tgt := 5) X dJ7_fill_53178_17 (by decide) ?_
      exact zv_pick X [1, 2, 0, 3] rfl (ih _ _ _ _ e)
set_option maxRecDepth 100000 in
set_option maxHeartbeats 4000000 in
theorem k_J7_fill_53178_10 {l : Launch} {D : va_G} {cy : Nat → ClassId} {S0 d : Nat} {N : Nat} {rf : zRf} (hkN : 10 < N) (hd : 0 ≤ d) {a1 : Int32} {h : zHp} {q : zHp} (e : s_J7_fill_53178_10 a1 h = some q) : zCT l D cy S0 d yJ7_fill_53178 cJ7_fill_53178 4 none [.ref 10, .int a1] N rf h none N rf q := by
  unfold s_J7_fill_53178_10 at e
  refine zCT_of RJ7 rfl zm_J7_fill_53178 (Nat.le_refl _) (Nat.le_of_ble_eq_true rfl) (fun J X => ?_)
  show J 0 [(0, .ref 10), (1, .int a1)] [] N rf h
  refine zv_iconst (v := (0 : Int32)) X dJ7_fill_53178_0 zic_0 ?_
  refine zv_istore_n (i := 2) (lv' := [(2, .int (0 : Int32)), (0, .ref 10), (1, .int a1)]) X dJ7_fill_53178_1 rfl (Nat.le_of_ble_eq_true rfl) rfl ?_
  refine zv_aload_n X dJ7_fill_53178_2 rfl rfl ?_
  refine zv_alenI (v := (40 : Int32)) X zk_10 zl_10 (by decide) hkN dJ7_fill_53178_3 ?_
  refine zv_istore_n (i := 3) (lv' := [(3, .int (40 : Int32)), (2, .int (0 : Int32)), (0, .ref 10), (1, .int a1)]) X dJ7_fill_53178_4 rfl (Nat.le_of_ble_eq_true rfl) rfl ?_
  exact zv_pick X [2, 3, 1, 0] rfl (k_J7_fill_53178_10_L5 hkN q hd X _ _ _ _ _ e)
-- J7_fill_53178_12
def s_J7_fill_53178_12_L5 : Nat → Int32 → Int32 → Int32 → zHp → Option zHp
  | 0, _, _, _, _ => none
  | f + 1, a1, a2, a3, h =>
  if a3 ≤ a2 then
    some h
  else
    (zui h 12 5 a2 a1).bind fun h2 =>
    s_J7_fill_53178_12_L5 f a1 (a2 + (1 : Int32)) a3 h2
def s_J7_fill_53178_12 (a1 : Int32) (h : zHp) : Option zHp :=
  s_J7_fill_53178_12_L5 zFU a1 (0 : Int32) (5 : Int32) h
set_option maxRecDepth 100000 in
set_option maxHeartbeats 4000000 in
theorem k_J7_fill_53178_12_L5 {l : Launch} {D : va_G} {cy : Nat → ClassId} {S0 d : Nat} {N : Nat} {rf : zRf} (hkN : 12 < N) {J : zJ} (q : zHp) (hd : 0 ≤ d) (X : zOK l D cy S0 d RJ7 cJ7_fill_53178 4 (yJ7_fill_53178.name == "<init>") N N none (zRT N rf none q) J) : ∀ (f : Nat) (a1 : Int32) (a2 : Int32) (a3 : Int32) (h : zHp), s_J7_fill_53178_12_L5 f a1 a2 a3 h = some q → J 5 [(0, .ref 12), (1, .int a1), (2, .int a2), (3, .int a3)] [] N rf h := by
  intro f
  induction f with
  | zero => intro _ _ _ h e; exact absurd e (fun z => by cases z)
  | succ f ih =>
    intro a1 a2 a3 h e
    rw [s_J7_fill_53178_12_L5] at e
    refine zv_iload_n X dJ7_fill_53178_5 rfl rfl ?_
    refine zv_iload_n X dJ7_fill_53178_6 rfl rfl ?_
    refine zv_icmp_ge (tgt := 20) X dJ7_fill_53178_7 (by decide) (fun c1 => ?_) (fun c1 => ?_)
    · replace e := zit e c1
      exact zv_retV X e rfl dJ7_fill_53178_20
    · replace e := zif e c1
      refine zv_aload_n X dJ7_fill_53178_10 rfl rfl ?_
      refine zv_iload_n X dJ7_fill_53178_11 rfl rfl ?_
      refine zv_iload_n X dJ7_fill_53178_12 rfl rfl ?_
      refine zb e (fun h2 gh2 e => ?_)
      refine zv_iast X zk_12 zl_12 hkN dJ7_fill_53178_13 gh2 ?_
      refine zv_iinc (k := 2) (v := a2 + (1 : Int32)) (lv' := [(2, .int (a2 + (1 : Int32))), (0, .ref 12), (1, .int a1), (3, .int a3)]) X dJ7_fill_53178_14 rfl rfl (Nat.le_of_ble_eq_true rfl) rfl ?_
      refine zv_goto (tgt := 5) X dJ7_fill_53178_17 (by decide) ?_
      exact zv_pick X [1, 2, 0, 3] rfl (ih _ _ _ _ e)
set_option maxRecDepth 100000 in
set_option maxHeartbeats 4000000 in
theorem k_J7_fill_53178_12 {l : Launch} {D : va_G} {cy : Nat → ClassId} {S0 d : Nat} {N : Nat} {rf : zRf} (hkN : 12 < N) (hd : 0 ≤ d) {a1 : Int32} {h : zHp} {q : zHp} (e : s_J7_fill_53178_12 a1 h = some q) : zCT l D cy S0 d yJ7_fill_53178 cJ7_fill_53178 4 none [.ref 12, .int a1] N rf h none N rf q := by
  unfold s_J7_fill_53178_12 at e
  refine zCT_of RJ7 rfl zm_J7_fill_53178 (Nat.le_refl _) (Nat.le_of_ble_eq_true rfl) (fun J X => ?_)
  show J 0 [(0, .ref 12), (1, .int a1)] [] N rf h
  refine zv_iconst (v := (0 : Int32)) X dJ7_fill_53178_0 zic_0 ?_
  refine zv_istore_n (i := 2) (lv' := [(2, .int (0 : Int32)), (0, .ref 12), (1, .int a1)]) X dJ7_fill_53178_1 rfl (Nat.le_of_ble_eq_true rfl) rfl ?_
  refine zv_aload_n X dJ7_fill_53178_2 rfl rfl ?_
  refine zv_alenI (v := (5 : Int32)) X zk_12 zl_12 (by decide) hkN dJ7_fill_53178_3 ?_
  refine zv_istore_n (i := 3) (lv' := [(3, .int (5 : Int32)), (2, .int (0 : Int32)), (0, .ref 12), (1, .int a1)]) X dJ7_fill_53178_4 rfl (Nat.le_of_ble_eq_true rfl) rfl ?_
  exact zv_pick X [2, 3, 1, 0] rfl (k_J7_fill_53178_12_L5 hkN q hd X _ _ _ _ _ e)
-- J7_fill_53178_29
def s_J7_fill_53178_29_L5 : Nat → Int32 → Int32 → Int32 → zHp → Option zHp
  | 0, _, _, _, _ => none
  | f + 1, a1, a2, a3, h =>
  if a3 ≤ a2 then
    some h
  else
    (zui h 29 80 a2 a1).bind fun h2 =>
    s_J7_fill_53178_29_L5 f a1 (a2 + (1 : Int32)) a3 h2
def s_J7_fill_53178_29 (a1 : Int32) (h : zHp) : Option zHp :=
  s_J7_fill_53178_29_L5 zFU a1 (0 : Int32) (80 : Int32) h
set_option maxRecDepth 100000 in
set_option maxHeartbeats 4000000 in
theorem k_J7_fill_53178_29_L5 {l : Launch} {D : va_G} {cy : Nat → ClassId} {S0 d : Nat} {N : Nat} {rf : zRf} (hkN : 29 < N) {J : zJ} (q : zHp) (hd : 0 ≤ d) (X : zOK l D cy S0 d RJ7 cJ7_fill_53178 4 (yJ7_fill_53178.name == "<init>") N N none (zRT N rf none q) J) : ∀ (f : Nat) (a1 : Int32) (a2 : Int32) (a3 : Int32) (h : zHp), s_J7_fill_53178_29_L5 f a1 a2 a3 h = some q → J 5 [(0, .ref 29), (1, .int a1), (2, .int a2), (3, .int a3)] [] N rf h := by
  intro f
  induction f with
  | zero => intro _ _ _ h e; exact absurd e (fun z => by cases z)
  | succ f ih =>
    intro a1 a2 a3 h e
    rw [s_J7_fill_53178_29_L5] at e
    refine zv_iload_n X dJ7_fill_53178_5 rfl rfl ?_
    refine zv_iload_n X dJ7_fill_53178_6 rfl rfl ?_
    refine zv_icmp_ge (tgt := 20) X dJ7_fill_53178_7 (by decide) (fun c1 => ?_) (fun c1 => ?_)
    · replace e := zit e c1
      exact zv_retV X e rfl dJ7_fill_53178_20
    · replace e := zif e c1
      refine zv_aload_n X dJ7_fill_53178_10 rfl rfl ?_
      refine zv_iload_n X dJ7_fill_53178_11 rfl rfl ?_
      refine zv_iload_n X dJ7_fill_53178_12 rfl rfl ?_
      refine zb e (fun h2 gh2 e => ?_)
      refine zv_iast X zk_29 zl_29 hkN dJ7_fill_53178_13 gh2 ?_
      refine zv_iinc (k := 2) (v := a2 + (1 : Int32)) (lv' := [(2, .int (a2 + (1 : Int32))), (0, .ref 29), (1, .int a1), (3, .int a3)]) X dJ7_fill_53178_14 rfl rfl (Nat.le_of_ble_eq_true rfl) rfl ?_
      refine zv_goto (tgt := 5) X dJ7_fill_53178_17 (by decide) ?_
      exact zv_pick X [1, 2, 0, 3] rfl (ih _ _ _ _ e)
set_option maxRecDepth 100000 in
set_option maxHeartbeats 4000000 in
theorem k_J7_fill_53178_29 {l : Launch} {D : va_G} {cy : Nat → ClassId} {S0 d : Nat} {N : Nat} {rf : zRf} (hkN : 29 < N) (hd : 0 ≤ d) {a1 : Int32} {h : zHp} {q : zHp} (e : s_J7_fill_53178_29 a1 h = some q) : zCT l D cy S0 d yJ7_fill_53178 cJ7_fill_53178 4 none [.ref 29, .int a1] N rf h none N rf q := by
  unfold s_J7_fill_53178_29 at e
  refine zCT_of RJ7 rfl zm_J7_fill_53178 (Nat.le_refl _) (Nat.le_of_ble_eq_true rfl) (fun J X => ?_)
  show J 0 [(0, .ref 29), (1, .int a1)] [] N rf h
  refine zv_iconst (v := (0 : Int32)) X dJ7_fill_53178_0 zic_0 ?_
  refine zv_istore_n (i := 2) (lv' := [(2, .int (0 : Int32)), (0, .ref 29), (1, .int a1)]) X dJ7_fill_53178_1 rfl (Nat.le_of_ble_eq_true rfl) rfl ?_
  refine zv_aload_n X dJ7_fill_53178_2 rfl rfl ?_
  refine zv_alenI (v := (80 : Int32)) X zk_29 zl_29 (by decide) hkN dJ7_fill_53178_3 ?_
  refine zv_istore_n (i := 3) (lv' := [(3, .int (80 : Int32)), (2, .int (0 : Int32)), (0, .ref 29), (1, .int a1)]) X dJ7_fill_53178_4 rfl (Nat.le_of_ble_eq_true rfl) rfl ?_
  exact zv_pick X [2, 3, 1, 0] rfl (k_J7_fill_53178_29_L5 hkN q hd X _ _ _ _ _ e)
-- J7_fill_53178_60
def s_J7_fill_53178_60_L5 : Nat → Int32 → Int32 → Int32 → zHp → Option zHp
  | 0, _, _, _, _ => none
  | f + 1, a1, a2, a3, h =>
  if a3 ≤ a2 then
    some h
  else
    (zui h 60 6 a2 a1).bind fun h2 =>
    s_J7_fill_53178_60_L5 f a1 (a2 + (1 : Int32)) a3 h2
def s_J7_fill_53178_60 (a1 : Int32) (h : zHp) : Option zHp :=
  s_J7_fill_53178_60_L5 zFU a1 (0 : Int32) (6 : Int32) h
set_option maxRecDepth 100000 in
set_option maxHeartbeats 4000000 in
theorem k_J7_fill_53178_60_L5 {l : Launch} {D : va_G} {cy : Nat → ClassId} {S0 d : Nat} {N : Nat} {rf : zRf} (hkN : 60 < N) {J : zJ} (q : zHp) (hd : 0 ≤ d) (X : zOK l D cy S0 d RJ7 cJ7_fill_53178 4 (yJ7_fill_53178.name == "<init>") N N none (zRT N rf none q) J) : ∀ (f : Nat) (a1 : Int32) (a2 : Int32) (a3 : Int32) (h : zHp), s_J7_fill_53178_60_L5 f a1 a2 a3 h = some q → J 5 [(0, .ref 60), (1, .int a1), (2, .int a2), (3, .int a3)] [] N rf h := by
  intro f
  induction f with
  | zero => intro _ _ _ h e; exact absurd e (fun z => by cases z)
  | succ f ih =>
    intro a1 a2 a3 h e
    rw [s_J7_fill_53178_60_L5] at e
    refine zv_iload_n X dJ7_fill_53178_5 rfl rfl ?_
    refine zv_iload_n X dJ7_fill_53178_6 rfl rfl ?_
    refine zv_icmp_ge (tgt := 20) X dJ7_fill_53178_7 (by decide) (fun c1 => ?_) (fun c1 => ?_)
    · replace e := zit e c1
      exact zv_retV X e rfl dJ7_fill_53178_20
    · replace e := zif e c1
      refine zv_aload_n X dJ7_fill_53178_10 rfl rfl ?_
      refine zv_iload_n X dJ7_fill_53178_11 rfl rfl ?_
      refine zv_iload_n X dJ7_fill_53178_12 rfl rfl ?_
      refine zb e (fun h2 gh2 e => ?_)
      refine zv_iast X zk_60 zl_60 hkN dJ7_fill_53178_13 gh2 ?_
      refine zv_iinc (k := 2) (v := a2 + (1 : Int32)) (lv' := [(2, .int (a2 + (1 : Int32))), (0, .ref 60), (1, .int a1), (3, .int a3)]) X dJ7_fill_53178_14 rfl rfl (Nat.le_of_ble_eq_true rfl) rfl ?_
      refine zv_goto (tgt := 5) X dJ7_fill_53178_17 (by decide) ?_
      exact zv_pick X [1, 2, 0, 3] rfl (ih _ _ _ _ e)
set_option maxRecDepth 100000 in
set_option maxHeartbeats 4000000 in
theorem k_J7_fill_53178_60 {l : Launch} {D : va_G} {cy : Nat → ClassId} {S0 d : Nat} {N : Nat} {rf : zRf} (hkN : 60 < N) (hd : 0 ≤ d) {a1 : Int32} {h : zHp} {q : zHp} (e : s_J7_fill_53178_60 a1 h = some q) : zCT l D cy S0 d yJ7_fill_53178 cJ7_fill_53178 4 none [.ref 60, .int a1] N rf h none N rf q := by
  unfold s_J7_fill_53178_60 at e
  refine zCT_of RJ7 rfl zm_J7_fill_53178 (Nat.le_refl _) (Nat.le_of_ble_eq_true rfl) (fun J X => ?_)
  show J 0 [(0, .ref 60), (1, .int a1)] [] N rf h
  refine zv_iconst (v := (0 : Int32)) X dJ7_fill_53178_0 zic_0 ?_
  refine zv_istore_n (i := 2) (lv' := [(2, .int (0 : Int32)), (0, .ref 60), (1, .int a1)]) X dJ7_fill_53178_1 rfl (Nat.le_of_ble_eq_true rfl) rfl ?_
  refine zv_aload_n X dJ7_fill_53178_2 rfl rfl ?_
  refine zv_alenI (v := (6 : Int32)) X zk_60 zl_60 (by decide) hkN dJ7_fill_53178_3 ?_
  refine zv_istore_n (i := 3) (lv' := [(3, .int (6 : Int32)), (2, .int (0 : Int32)), (0, .ref 60), (1, .int a1)]) X dJ7_fill_53178_4 rfl (Nat.le_of_ble_eq_true rfl) rfl ?_
  exact zv_pick X [2, 3, 1, 0] rfl (k_J7_fill_53178_60_L5 hkN q hd X _ _ _ _ _ e)

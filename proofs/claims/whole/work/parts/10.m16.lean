-- X10_casesOf
def s_X10_casesOf_L26 (k14 : Int32 → Int32 → Int32 → Int64 → Int32 → zHp → Option (Int64 × zHp)) (a1 : Int32) (a2 : Int32) (a3 : Int32) (a4 : Int64) (a6 : Int32) (b0 : Int32) (b1 : Int32) (h : zHp) : Option (Int64 × zHp) :=
  if b1 ≤ b0 then
    some (a4, h)
  else
    (zri h 114 72 (((12 : Int32) * a1) + a6)).bind fun v2 =>
    (some (a4 + v2.toInt64)).bind fun v3 =>
    k14 a1 a2 a3 v3 (a6 + (1 : Int32)) h
def s_X10_casesOf_L14 : Nat → Int32 → Int32 → Int32 → Int64 → Int32 → zHp → Option (Int64 × zHp)
  | 0, _, _, _, _, _, _ => none
  | f + 1, a1, a2, a3, a4, a6, h =>
  if a3 = 0 then
    s_X10_casesOf_L26 (s_X10_casesOf_L14 f) a1 a2 a3 a4 a6 a6 a2 h
  else
    s_X10_casesOf_L26 (s_X10_casesOf_L14 f) a1 a2 a3 a4 a6 a6 (12 : Int32) h
def s_X10_casesOf_L12 (a1 : Int32) (a2 : Int32) (a3 : Int32) (a4 : Int64) (b0 : Int32) (h : zHp) : Option (Int64 × zHp) :=
  s_X10_casesOf_L14 zFU a1 a2 a3 a4 b0 h
def s_X10_casesOf (a1 : Int32) (a2 : Int32) (a3 : Int32) (h : zHp) : Option (Int64 × zHp) :=
  if a3 = 0 then
    s_X10_casesOf_L12 a1 a2 a3 (0 : Int64) (0 : Int32) h
  else
    s_X10_casesOf_L12 a1 a2 a3 (0 : Int64) a2 h
set_option maxRecDepth 100000 in
set_option maxHeartbeats 4000000 in
theorem k_X10_casesOf_L26 {l : Launch} {D : va_G} {cy : Nat → ClassId} {S0 d : Nat} {J : zJ} (q : (Int64 × zHp)) (hd : 0 ≤ d) (X : zOK l D cy S0 d RX10 cX10_casesOf 7 (yX10_casesOf.name == "<init>") 117 117 (some .long) (zRT 117 zRF (some (.long q.1)) q.2) J) {k14 : Int32 → Int32 → Int32 → Int64 → Int32 → zHp → Option (Int64 × zHp)} (hk14 : ∀ (a1 : Int32) (a2 : Int32) (a3 : Int32) (a4 : Int64) (a6 : Int32) (h : zHp), k14 a1 a2 a3 a4 a6 h = some q → J 14 [(0, .ref 67), (1, .int a1), (2, .int a2), (3, .int a3), (4, .long a4), (6, .int a6)] [] 117 zRF h) : ∀ (a1 : Int32) (a2 : Int32) (a3 : Int32) (a4 : Int64) (a6 : Int32) (b0 : Int32) (b1 : Int32) (h : zHp), s_X10_casesOf_L26 k14 a1 a2 a3 a4 a6 b0 b1 h = some q → J 26 [(0, .ref 67), (1, .int a1), (2, .int a2), (3, .int a3), (4, .long a4), (6, .int a6)] [.int b1, .int b0] 117 zRF h := by
  intro a1 a2 a3 a4 a6 b0 b1 h e
  unfold s_X10_casesOf_L26 at e
  refine zv_icmp_ge (tgt := 53) X dX10_casesOf_26 (by decide) (fun c1 => ?_) (fun c1 => ?_)
  · replace e := zit e c1
    refine zv_lload X dX10_casesOf_53 rfl ?_
    exact zv_retL X e rfl dX10_casesOf_55
  · replace e := zif e c1
    refine zv_lload X dX10_casesOf_29 rfl ?_
    refine zv_aload_n X dX10_casesOf_31 rfl rfl ?_
    refine zv_getR X zf_RX10_154 znt_a zk_67 zb_67 zr_67_57 dX10_casesOf_32 ?_
    refine zv_bipush (v := (12 : Int32)) X dX10_casesOf_35 zbp_12 ?_
    refine zv_iload_n X dX10_casesOf_37 rfl rfl ?_
    refine zv_imul X dX10_casesOf_38 ?_
    refine zv_iload X dX10_casesOf_39 rfl ?_
    refine zv_iadd X dX10_casesOf_41 ?_
    refine zb e (fun v2 gv2 e => ?_)
    refine zv_iald X zk_114 zl_114 zb_114 dX10_casesOf_42 gv2 ?_
    refine zv_i2l X dX10_casesOf_43 ?_
    refine zv_ladd X dX10_casesOf_44 ?_
    refine zb e (fun v3 gv3 e => ?_)
    refine zv_nmJ X gv3 ?_
    refine zv_lstore (i := 4) (lv' := [(4, .long v3), (0, .ref 67), (1, .int a1), (2, .int a2), (3, .int a3), (6, .int a6)]) X dX10_casesOf_45 (Nat.le_of_ble_eq_true rfl) rfl ?_
    refine zv_iinc (k := 5) (v := a6 + (1 : Int32)) (lv' := [(6, .int (a6 + (1 : Int32))), (4, .long v3), (0, .ref 67), (1, .int a1), (2, .int a2), (3, .int a3)]) X dX10_casesOf_47 rfl rfl (Nat.le_of_ble_eq_true rfl) rfl ?_
    refine zv_goto (tgt := 14) X dX10_casesOf_50 (by decide) ?_
    exact zv_pick X [2, 3, 4, 5, 1, 0] rfl (hk14 _ _ _ _ _ _ e)
set_option maxRecDepth 100000 in
set_option maxHeartbeats 4000000 in
theorem k_X10_casesOf_L14 {l : Launch} {D : va_G} {cy : Nat → ClassId} {S0 d : Nat} {J : zJ} (q : (Int64 × zHp)) (hd : 0 ≤ d) (X : zOK l D cy S0 d RX10 cX10_casesOf 7 (yX10_casesOf.name == "<init>") 117 117 (some .long) (zRT 117 zRF (some (.long q.1)) q.2) J) : ∀ (f : Nat) (a1 : Int32) (a2 : Int32) (a3 : Int32) (a4 : Int64) (a6 : Int32) (h : zHp), s_X10_casesOf_L14 f a1 a2 a3 a4 a6 h = some q → J 14 [(0, .ref 67), (1, .int a1), (2, .int a2), (3, .int a3), (4, .long a4), (6, .int a6)] [] 117 zRF h := by
  intro f
  induction f with
  | zero => intro _ _ _ _ _ h e; exact absurd e (fun z => by cases z)
  | succ f ih =>
    intro a1 a2 a3 a4 a6 h e
    rw [s_X10_casesOf_L14] at e
    refine zv_iload X dX10_casesOf_14 rfl ?_
    refine zv_iload_n X dX10_casesOf_16 rfl rfl ?_
    refine zv_if_eq (tgt := 25) X dX10_casesOf_17 (by decide) (fun c1 => ?_) (fun c1 => ?_)
    · replace e := zit e c1
      refine zv_iload_n X dX10_casesOf_25 rfl rfl ?_
      exact k_X10_casesOf_L26 q hd X ih _ _ _ _ _ _ _ _ e
    · replace e := zif e c1
      refine zv_bipush (v := (12 : Int32)) X dX10_casesOf_20 zbp_12 ?_
      refine zv_goto (tgt := 26) X dX10_casesOf_22 (by decide) ?_
      exact k_X10_casesOf_L26 q hd X ih _ _ _ _ _ _ _ _ e
set_option maxRecDepth 100000 in
set_option maxHeartbeats 4000000 in
theorem k_X10_casesOf_L12 {l : Launch} {D : va_G} {cy : Nat → ClassId} {S0 d : Nat} {J : zJ} (q : (Int64 × zHp)) (hd : 0 ≤ d) (X : zOK l D cy S0 d RX10 cX10_casesOf 7 (yX10_casesOf.name == "<init>") 117 117 (some .long) (zRT 117 zRF (some (.long q.1)) q.2) J) : ∀ (a1 : Int32) (a2 : Int32) (a3 : Int32) (a4 : Int64) (b0 : Int32) (h : zHp), s_X10_casesOf_L12 a1 a2 a3 a4 b0 h = some q → J 12 [(0, .ref 67), (1, .int a1), (2, .int a2), (3, .int a3), (4, .long a4)] [.int b0] 117 zRF h := by
  intro a1 a2 a3 a4 b0 h e
  unfold s_X10_casesOf_L12 at e
  refine zv_istore (i := 6) (lv' := [(6, .int b0), (0, .ref 67), (1, .int a1), (2, .int a2), (3, .int a3), (4, .long a4)]) X dX10_casesOf_12 (Nat.le_of_ble_eq_true rfl) rfl ?_
  exact zv_pick X [1, 2, 3, 4, 5, 0] rfl (k_X10_casesOf_L14 q hd X _ _ _ _ _ _ _ e)
set_option maxRecDepth 100000 in
set_option maxHeartbeats 4000000 in
theorem k_X10_casesOf {l : Launch} {D : va_G} {cy : Nat → ClassId} {S0 d : Nat} (hd : 0 ≤ d) {a1 : Int32} {a2 : Int32} {a3 : Int32} {h : zHp} {q : (Int64 × zHp)} (e : s_X10_casesOf a1 a2 a3 h = some q) : zCT l D cy S0 d yX10_casesOf cX10_casesOf 7 (some .long) [.ref 67, .int a1, .int a2, .int a3] 117 zRF h (some (.long q.1)) 117 zRF q.2 := by
  unfold s_X10_casesOf at e
  refine zCT_of RX10 rfl zm_X10_casesOf (Nat.le_refl _) (Nat.le_of_ble_eq_true rfl) (fun J X => ?_)
  show J 0 [(0, .ref 67), (1, .int a1), (2, .int a2), (3, .int a3)] [] 117 zRF h
  refine zv_lconst (v := (0 : Int64)) X dX10_casesOf_0 rfl ?_
  refine zv_lstore (i := 4) (lv' := [(4, .long (0 : Int64)), (0, .ref 67), (1, .int a1), (2, .int a2), (3, .int a3)]) X dX10_casesOf_1 (Nat.le_of_ble_eq_true rfl) rfl ?_
  refine zv_iload_n X dX10_casesOf_3 rfl rfl ?_
  refine zv_if_eq (tgt := 11) X dX10_casesOf_4 (by decide) (fun c1 => ?_) (fun c1 => ?_)
  · replace e := zit e c1
    refine zv_iconst (v := (0 : Int32)) X dX10_casesOf_11 zic_0 ?_
    exact zv_pick X [1, 2, 3, 4, 0] rfl (k_X10_casesOf_L12 q hd X _ _ _ _ _ _ e)
  · replace e := zif e c1
    refine zv_iload_n X dX10_casesOf_7 rfl rfl ?_
    refine zv_goto (tgt := 12) X dX10_casesOf_8 (by decide) ?_
    exact zv_pick X [1, 2, 3, 4, 0] rfl (k_X10_casesOf_L12 q hd X _ _ _ _ _ _ e)
-- X10_addEffect
def s_X10_addEffect (a1 : Int64) (a3 : Int64) (h : zHp) : Option zHp :=
  (some (((h.2 67 59) * a3) + (a1 * (h.2 67 60)))).bind fun v1 =>
  (zpl h 67 59 v1).bind fun h2 =>
  (some ((h2.2 67 60) * a3)).bind fun v3 =>
  (zpl h2 67 60 v3).bind fun h4 =>
  (s_X10_divisor (h4.2 67 59) (h4.2 67 60) h4).bind fun q5 =>
  (zldiv (q5.2.2 67 59) q5.1).bind fun v6 =>
  (zpl q5.2 67 59 v6).bind fun h7 =>
  (zldiv (h7.2 67 60) q5.1).bind fun v8 =>
  (zpl h7 67 60 v8).bind fun h9 =>
  some h9
set_option maxRecDepth 100000 in
set_option maxHeartbeats 4000000 in
theorem k_X10_addEffect {l : Launch} {D : va_G} {cy : Nat → ClassId} {S0 d : Nat} (hd : 1 ≤ d) {a1 : Int64} {a3 : Int64} {h : zHp} {q : zHp} (e : s_X10_addEffect a1 a3 h = some q) : zCT l D cy S0 d yX10_addEffect cX10_addEffect 7 none [.ref 67, .long a1, .long a3] 117 zRF h none 117 zRF q := by
  unfold s_X10_addEffect at e
  refine zCT_of RX10 rfl zm_X10_addEffect (Nat.le_refl _) (Nat.le_of_ble_eq_true rfl) (fun J X => ?_)
  show J 0 [(0, .ref 67), (1, .long a1), (3, .long a3)] [] 117 zRF h
  refine zv_aload_n X dX10_addEffect_0 rfl rfl ?_
  refine zv_aload_n X dX10_addEffect_1 rfl rfl ?_
  refine zv_getL X zf_RX10_309 zk_67 zb_67 dX10_addEffect_2 ?_
  refine zv_lload_n X dX10_addEffect_5 rfl rfl ?_
  refine zv_lmul X dX10_addEffect_6 ?_
  refine zv_lload_n X dX10_addEffect_7 rfl rfl ?_
  refine zv_aload_n X dX10_addEffect_8 rfl rfl ?_
  refine zv_getL X zf_RX10_312 zk_67 zb_67 dX10_addEffect_9 ?_
  refine zv_lmul X dX10_addEffect_12 ?_
  refine zv_ladd X dX10_addEffect_13 ?_
  refine zb e (fun v1 gv1 e => ?_)
  refine zv_nmJ X gv1 ?_
  refine zb e (fun h2 gh2 e => ?_)
  refine zv_putL' X zf_RX10_309 zk_67 zb_67 dX10_addEffect_14 gh2 ?_
  refine zv_aload_n X dX10_addEffect_17 rfl rfl ?_
  refine zv_dup_r X dX10_addEffect_18 ?_
  refine zv_getL X zf_RX10_312 zk_67 zb_67 dX10_addEffect_19 ?_
  refine zv_lload_n X dX10_addEffect_22 rfl rfl ?_
  refine zv_lmul X dX10_addEffect_23 ?_
  refine zb e (fun v3 gv3 e => ?_)
  refine zv_nmJ X gv3 ?_
  refine zb e (fun h4 gh4 e => ?_)
  refine zv_putL' X zf_RX10_312 zk_67 zb_67 dX10_addEffect_24 gh4 ?_
  refine zv_aload_n X dX10_addEffect_27 rfl rfl ?_
  refine zv_getL X zf_RX10_309 zk_67 zb_67 dX10_addEffect_28 ?_
  refine zv_aload_n X dX10_addEffect_31 rfl rfl ?_
  refine zv_getL X zf_RX10_312 zk_67 zb_67 dX10_addEffect_32 ?_
  refine zb e (fun q5 gq5 e => ?_)
  refine zv_callS (stk := [.long (h4.2 67 60), .long (h4.2 67 59)]) (as := [.long (h4.2 67 59), .long (h4.2 67 60)]) (st := []) X zl_RX10_281 zm_X10_divisor (k_X10_divisor (d := d - 1) (by omega) gq5) (by omega) rfl (Nat.le_of_ble_eq_true rfl) (Nat.le_refl _) rfl dX10_addEffect_35 ?_
  show J 38 [(0, .ref 67), (1, .long a1), (3, .long a3)] [.long q5.1] 117 zRF q5.2
  refine zv_lstore (i := 5) (lv' := [(5, .long q5.1), (0, .ref 67), (1, .long a1), (3, .long a3)]) X dX10_addEffect_38 (Nat.le_of_ble_eq_true rfl) rfl ?_
  refine zv_aload_n X dX10_addEffect_40 rfl rfl ?_
  refine zv_dup_r X dX10_addEffect_41 ?_
  refine zv_getL X zf_RX10_309 zk_67 zb_67 dX10_addEffect_42 ?_
  refine zv_lload X dX10_addEffect_45 rfl ?_
  refine zb e (fun v6 gv6 e => ?_)
  refine zv_ldiv X dX10_addEffect_47 gv6 ?_
  refine zb e (fun h7 gh7 e => ?_)
  refine zv_putL' X zf_RX10_309 zk_67 zb_67 dX10_addEffect_48 gh7 ?_
  refine zv_aload_n X dX10_addEffect_51 rfl rfl ?_
  refine zv_dup_r X dX10_addEffect_52 ?_
  refine zv_getL X zf_RX10_312 zk_67 zb_67 dX10_addEffect_53 ?_
  refine zv_lload X dX10_addEffect_56 rfl ?_
  refine zb e (fun v8 gv8 e => ?_)
  refine zv_ldiv X dX10_addEffect_58 gv8 ?_
  refine zb e (fun h9 gh9 e => ?_)
  refine zv_putL' X zf_RX10_312 zk_67 zb_67 dX10_addEffect_59 gh9 ?_
  exact zv_retV X e rfl dX10_addEffect_62
-- X10_findEffect
def s_X10_findEffect_L52 (k6 : Int32 → Int32 → Int32 → zHp → Option (Int32 × zHp)) (a1 : Int32) (a3 : Int32) (b0 : Int32) (b1 : Int32) (h : zHp) : Option (Int32 × zHp) :=
  (some (b0 + b1)).bind fun v1 =>
  k6 a1 v1 (a3 + (1 : Int32)) h
def s_X10_findEffect_L29 (k6 : Int32 → Int32 → Int32 → zHp → Option (Int32 × zHp)) (a2 : Int32) (a3 : Int32) (b0 : Int32) (b1 : Int32) (h : zHp) : Option (Int32 × zHp) :=
  (some (b0 + b1)).bind fun v1 =>
  (zri h 115 6 a3).bind fun v2 =>
  (s_X10_in v2 (1 : Int32) (11 : Int32) h).bind fun q3 =>
  if q3.1 = 0 then
    s_X10_findEffect_L52 k6 v1 a3 a2 (0 : Int32) q3.2
  else
    s_X10_findEffect_L52 k6 v1 a3 a2 (1 : Int32) q3.2
def s_X10_findEffect_L208 (k72 : Int32 → Int32 → Int32 → zHp → Option (Int32 × zHp)) (k144 : Int32 → Int32 → Int32 → Int32 → Int64 → Int64 → Int32 → zHp → Option (Int32 × zHp)) (a1 : Int32) (a2 : Int32) (a3 : Int32) (a4 : Int32) (a5 : Int64) (a9 : Int32) (b0 : Int64) (b1 : Int64) (h : zHp) : Option (Int32 × zHp) :=
  (some (b0 + b1)).bind fun v1 =>
  k144 a1 a2 a3 a4 a5 v1 (a9 + (1 : Int32)) h
def s_X10_findEffect_L178 (k72 : Int32 → Int32 → Int32 → zHp → Option (Int32 × zHp)) (k144 : Int32 → Int32 → Int32 → Int32 → Int64 → Int64 → Int32 → zHp → Option (Int32 × zHp)) (a1 : Int32) (a2 : Int32) (a3 : Int32) (a4 : Int32) (a7 : Int64) (a9 : Int32) (b0 : Int64) (b1 : Int64) (h : zHp) : Option (Int32 × zHp) :=
  (some (b0 + b1)).bind fun v1 =>
  (zri h 115 6 a9).bind fun v2 =>
  if v2 = (12 : Int32) then
    (s_X10_casesOf a9 a4 (0 : Int32) h).bind fun q4 =>
    s_X10_findEffect_L208 k72 k144 a1 a2 a3 a4 v1 a9 a7 q4.1 q4.2
  else
    s_X10_findEffect_L208 k72 k144 a1 a2 a3 a4 v1 a9 a7 (0 : Int64) h
def s_X10_findEffect_L246 (k72 : Int32 → Int32 → Int32 → zHp → Option (Int32 × zHp)) (a1 : Int32) (a2 : Int32) (a3 : Int32) (h : zHp) : Option (Int32 × zHp) :=
  k72 a1 a2 (a3 + (1 : Int32)) h
def s_X10_findEffect_L144 (k72 : Int32 → Int32 → Int32 → zHp → Option (Int32 × zHp)) : Nat → Int32 → Int32 → Int32 → Int32 → Int64 → Int64 → Int32 → zHp → Option (Int32 × zHp)
  | 0, _, _, _, _, _, _, _, _ => none
  | f + 1, a1, a2, a3, a4, a5, a7, a9, h =>
  if (6 : Int32) ≤ a9 then
    (s_X10_addEffect (-a5) (a1.toInt64 * ((12 : Int64) - a4.toInt64)) h).bind fun q2 =>
    (s_X10_addEffect a7 (a1.toInt64 * a4.toInt64) q2).bind fun q3 =>
    s_X10_findEffect_L246 k72 a1 a2 a3 q3
  else
    (zri h 115 6 a9).bind fun v4 =>
    if v4 = (12 : Int32) then
      (s_X10_casesOf a9 a4 (1 : Int32) h).bind fun q6 =>
      s_X10_findEffect_L178 k72 (s_X10_findEffect_L144 k72 f) a1 a2 a3 a4 a7 a9 a5 q6.1 q6.2
    else
      s_X10_findEffect_L178 k72 (s_X10_findEffect_L144 k72 f) a1 a2 a3 a4 a7 a9 a5 (0 : Int64) h
def s_X10_findEffect_L316 (b0 : Int32) (h : zHp) : Option (Int32 × zHp) :=
  (zbo b0).bind fun u1 =>
  some (b0, h)
def s_X10_findEffect_L315  (h : zHp) : Option (Int32 × zHp) :=
  s_X10_findEffect_L316 (0 : Int32) h
def s_X10_findEffect_L267 (a1 : Int32) (a2 : Int32) (b1 : Int64) (b2 : Int64) (h : zHp) : Option (Int32 × zHp) :=
  (some (b1 * b2)).bind fun v1 =>
  (zpl h 67 60 v1).bind fun h2 =>
  (s_X10_divisor (h2.2 67 59) (h2.2 67 60) h2).bind fun q3 =>
  (zldiv (q3.2.2 67 59) q3.1).bind fun v4 =>
  (zpl q3.2 67 59 v4).bind fun h5 =>
  (zldiv (h5.2 67 60) q3.1).bind fun v6 =>
  (zpl h5 67 60 v6).bind fun h7 =>
  if a1 ≤ 0 then
    s_X10_findEffect_L315 h7
  else
    if a2 ≤ 0 then
      s_X10_findEffect_L315 h7
    else
      s_X10_findEffect_L316 (1 : Int32) h7
def s_X10_findEffect_L252 (a1 : Int32) (a2 : Int32) (h : zHp) : Option (Int32 × zHp) :=
  if a2 ≤ 0 then
    s_X10_findEffect_L267 a1 a2 (h.2 67 60) (1 : Int64) h
  else
    s_X10_findEffect_L267 a1 a2 (h.2 67 60) a2.toInt64 h
def s_X10_findEffect_L72 : Nat → Int32 → Int32 → Int32 → zHp → Option (Int32 × zHp)
  | 0, _, _, _, _ => none
  | f + 1, a1, a2, a3, h =>
  if (6 : Int32) ≤ a3 then
    s_X10_findEffect_L252 a1 a2 h
  else
    if a1 ≤ 0 then
      s_X10_findEffect_L252 a1 a2 h
    else
      (zri h 115 6 a3).bind fun v3 =>
      (s_X10_in v3 (1 : Int32) (11 : Int32) h).bind fun q4 =>
      if q4.1 = 0 then
        s_X10_findEffect_L246 (s_X10_findEffect_L72 f) a1 a2 a3 q4.2
      else
        (s_X10_casesOf a3 v3 (1 : Int32) q4.2).bind fun q6 =>
        (s_X10_addEffect q6.1 (((12 : Int32) - v3).toInt64) q6.2).bind fun q7 =>
        (s_X10_casesOf a3 v3 (0 : Int32) q7).bind fun q8 =>
        (s_X10_addEffect (-q8.1) v3.toInt64 q8.2).bind fun q9 =>
        s_X10_findEffect_L144 (s_X10_findEffect_L72 f) zFU a1 a2 a3 v3 (0 : Int64) (0 : Int64) (0 : Int32) q9
def s_X10_findEffect_L6 : Nat → Int32 → Int32 → Int32 → zHp → Option (Int32 × zHp)
  | 0, _, _, _, _ => none
  | f + 1, a1, a2, a3, h =>
  if (6 : Int32) ≤ a3 then
    (zpl h 67 59 (0 : Int64)).bind fun h2 =>
    (zpl h2 67 60 (1 : Int64)).bind fun h3 =>
    s_X10_findEffect_L72 zFU a1 a2 (0 : Int32) h3
  else
    (zri h 115 6 a3).bind fun v4 =>
    if v4 = (12 : Int32) then
      s_X10_findEffect_L29 (s_X10_findEffect_L6 f) a2 a3 a1 (1 : Int32) h
    else
      s_X10_findEffect_L29 (s_X10_findEffect_L6 f) a2 a3 a1 (0 : Int32) h
def s_X10_findEffect  (h : zHp) : Option (Int32 × zHp) :=
  s_X10_findEffect_L6 zFU (0 : Int32) (0 : Int32) (0 : Int32) h
set_option maxRecDepth 100000 in
set_option maxHeartbeats 4000000 in
theorem k_X10_findEffect_L52 {l : Launch} {D : va_G} {cy : Nat → ClassId} {S0 d : Nat} {J : zJ} (q : (Int32 × zHp)) (hd : 2 ≤ d) (X : zOK l D cy S0 d RX10 cX10_findEffect 10 (yX10_findEffect.name == "<init>") 117 117 (some .boolean) (zRT 117 zRF (some (.int q.1)) q.2) J) {k6 : Int32 → Int32 → Int32 → zHp → Option (Int32 × zHp)} (hk6 : ∀ (a1 : Int32) (a2 : Int32) (a3 : Int32) (h : zHp), k6 a1 a2 a3 h = some q → J 6 [(0, .ref 67), (1, .int a1), (2, .int a2), (3, .int a3)] [] 117 zRF h) : ∀ (a1 : Int32) (a3 : Int32) (b0 : Int32) (b1 : Int32) (h : zHp), s_X10_findEffect_L52 k6 a1 a3 b0 b1 h = some q → J 52 [(0, .ref 67), (1, .int a1), (3, .int a3)] [.int b1, .int b0] 117 zRF h := by
  intro a1 a3 b0 b1 h e
  unfold s_X10_findEffect_L52 at e
  refine zv_iadd X dX10_findEffect_52 ?_
  refine zb e (fun v1 gv1 e => ?_)
  refine zv_nmI X gv1 ?_
  refine zv_istore_n (i := 2) (lv' := [(2, .int v1), (0, .ref 67), (1, .int a1), (3, .int a3)]) X dX10_findEffect_53 rfl (Nat.le_of_ble_eq_true rfl) rfl ?_
  refine zv_iinc (k := 3) (v := a3 + (1 : Int32)) (lv' := [(3, .int (a3 + (1 : Int32))), (2, .int v1), (0, .ref 67), (1, .int a1)]) X dX10_findEffect_54 rfl rfl (Nat.le_of_ble_eq_true rfl) rfl ?_
  refine zv_goto (tgt := 6) X dX10_findEffect_57 (by decide) ?_
  exact zv_pick X [2, 3, 1, 0] rfl (hk6 _ _ _ _ e)
set_option maxRecDepth 100000 in
set_option maxHeartbeats 4000000 in
theorem k_X10_findEffect_L29 {l : Launch} {D : va_G} {cy : Nat → ClassId} {S0 d : Nat} {J : zJ} (q : (Int32 × zHp)) (hd : 2 ≤ d) (X : zOK l D cy S0 d RX10 cX10_findEffect 10 (yX10_findEffect.name == "<init>") 117 117 (some .boolean) (zRT 117 zRF (some (.int q.1)) q.2) J) {k6 : Int32 → Int32 → Int32 → zHp → Option (Int32 × zHp)} (hk6 : ∀ (a1 : Int32) (a2 : Int32) (a3 : Int32) (h : zHp), k6 a1 a2 a3 h = some q → J 6 [(0, .ref 67), (1, .int a1), (2, .int a2), (3, .int a3)] [] 117 zRF h) : ∀ (a2 : Int32) (a3 : Int32) (b0 : Int32) (b1 : Int32) (h : zHp), s_X10_findEffect_L29 k6 a2 a3 b0 b1 h = some q → J 29 [(0, .ref 67), (2, .int a2), (3, .int a3)] [.int b1, .int b0] 117 zRF h := by
  intro a2 a3 b0 b1 h e
  unfold s_X10_findEffect_L29 at e
  refine zv_iadd X dX10_findEffect_29 ?_
  refine zb e (fun v1 gv1 e => ?_)
  refine zv_nmI X gv1 ?_
  refine zv_istore_n (i := 1) (lv' := [(1, .int v1), (0, .ref 67), (2, .int a2), (3, .int a3)]) X dX10_findEffect_30 rfl (Nat.le_of_ble_eq_true rfl) rfl ?_
  refine zv_iload_n X dX10_findEffect_31 rfl rfl ?_
  refine zv_aload_n X dX10_findEffect_32 rfl rfl ?_
  refine zv_getR X zf_RX10_157 znt_a zk_67 zb_67 zr_67_58 dX10_findEffect_33 ?_
  refine zv_iload_n X dX10_findEffect_36 rfl rfl ?_
  refine zb e (fun v2 gv2 e => ?_)
  refine zv_iald X zk_115 zl_115 zb_115 dX10_findEffect_37 gv2 ?_
  refine zv_iconst (v := (1 : Int32)) X dX10_findEffect_38 zic_1 ?_
  refine zv_bipush (v := (11 : Int32)) X dX10_findEffect_39 zbp_11 ?_
  refine zb e (fun q3 gq3 e => ?_)
  refine zv_callS (stk := [.int (11 : Int32), .int (1 : Int32), .int v2, .int a2]) (as := [.int v2, .int (1 : Int32), .int (11 : Int32)]) (st := [.int a2]) X zl_RX10_168 zm_X10_in (k_X10_in (d := d - 1) (by omega) gq3) (by omega) rfl (Nat.le_of_ble_eq_true rfl) (Nat.le_refl _) rfl dX10_findEffect_41 ?_
  show J 44 [(1, .int v1), (0, .ref 67), (2, .int a2), (3, .int a3)] [.int q3.1, .int a2] 117 zRF q3.2
  refine zv_if_eq (tgt := 51) X dX10_findEffect_44 (by decide) (fun c4 => ?_) (fun c4 => ?_)
  · replace e := zit e c4
    refine zv_iconst (v := (0 : Int32)) X dX10_findEffect_51 zic_0 ?_
    exact zv_pick X [1, 0, 3] rfl (k_X10_findEffect_L52 q hd X hk6 _ _ _ _ _ e)
  · replace e := zif e c4
    refine zv_iconst (v := (1 : Int32)) X dX10_findEffect_47 zic_1 ?_
    refine zv_goto (tgt := 52) X dX10_findEffect_48 (by decide) ?_
    exact zv_pick X [1, 0, 3] rfl (k_X10_findEffect_L52 q hd X hk6 _ _ _ _ _ e)
set_option maxRecDepth 100000 in
set_option maxHeartbeats 4000000 in
theorem k_X10_findEffect_L208 {l : Launch} {D : va_G} {cy : Nat → ClassId} {S0 d : Nat} {J : zJ} (q : (Int32 × zHp)) (hd : 2 ≤ d) (X : zOK l D cy S0 d RX10 cX10_findEffect 10 (yX10_findEffect.name == "<init>") 117 117 (some .boolean) (zRT 117 zRF (some (.int q.1)) q.2) J) {k72 : Int32 → Int32 → Int32 → zHp → Option (Int32 × zHp)} (hk72 : ∀ (a1 : Int32) (a2 : Int32) (a3 : Int32) (h : zHp), k72 a1 a2 a3 h = some q → J 72 [(0, .ref 67), (1, .int a1), (2, .int a2), (3, .int a3)] [] 117 zRF h) {k144 : Int32 → Int32 → Int32 → Int32 → Int64 → Int64 → Int32 → zHp → Option (Int32 × zHp)} (hk144 : ∀ (a1 : Int32) (a2 : Int32) (a3 : Int32) (a4 : Int32) (a5 : Int64) (a7 : Int64) (a9 : Int32) (h : zHp), k144 a1 a2 a3 a4 a5 a7 a9 h = some q → J 144 [(0, .ref 67), (1, .int a1), (2, .int a2), (3, .int a3), (4, .int a4), (5, .long a5), (7, .long a7), (9, .int a9)] [] 117 zRF h) : ∀ (a1 : Int32) (a2 : Int32) (a3 : Int32) (a4 : Int32) (a5 : Int64) (a9 : Int32) (b0 : Int64) (b1 : Int64) (h : zHp), s_X10_findEffect_L208 k72 k144 a1 a2 a3 a4 a5 a9 b0 b1 h = some q → J 208 [(0, .ref 67), (1, .int a1), (2, .int a2), (3, .int a3), (4, .int a4), (5, .long a5), (9, .int a9)] [.long b1, .long b0] 117 zRF h := by
  intro a1 a2 a3 a4 a5 a9 b0 b1 h e
  unfold s_X10_findEffect_L208 at e
  refine zv_ladd X dX10_findEffect_208 ?_
  refine zb e (fun v1 gv1 e => ?_)
  refine zv_nmJ X gv1 ?_
  refine zv_lstore (i := 7) (lv' := [(7, .long v1), (0, .ref 67), (1, .int a1), (2, .int a2), (3, .int a3), (4, .int a4), (5, .long a5), (9, .int a9)]) X dX10_findEffect_209 (Nat.le_of_ble_eq_true rfl) rfl ?_
  refine zv_iinc (k := 7) (v := a9 + (1 : Int32)) (lv' := [(9, .int (a9 + (1 : Int32))), (7, .long v1), (0, .ref 67), (1, .int a1), (2, .int a2), (3, .int a3), (4, .int a4), (5, .long a5)]) X dX10_findEffect_211 rfl rfl (Nat.le_of_ble_eq_true rfl) rfl ?_
  refine zv_goto (tgt := 144) X dX10_findEffect_214 (by decide) ?_
  exact zv_pick X [2, 3, 4, 5, 6, 7, 1, 0] rfl (hk144 _ _ _ _ _ _ _ _ e)
set_option maxRecDepth 100000 in
set_option maxHeartbeats 4000000 in
theorem k_X10_findEffect_L178 {l : Launch} {D : va_G} {cy : Nat → ClassId} {S0 d : Nat} {J : zJ} (q : (Int32 × zHp)) (hd : 2 ≤ d) (X : zOK l D cy S0 d RX10 cX10_findEffect 10 (yX10_findEffect.name == "<init>") 117 117 (some .boolean) (zRT 117 zRF (some (.int q.1)) q.2) J) {k72 : Int32 → Int32 → Int32 → zHp → Option (Int32 × zHp)} (hk72 : ∀ (a1 : Int32) (a2 : Int32) (a3 : Int32) (h : zHp), k72 a1 a2 a3 h = some q → J 72 [(0, .ref 67), (1, .int a1), (2, .int a2), (3, .int a3)] [] 117 zRF h) {k144 : Int32 → Int32 → Int32 → Int32 → Int64 → Int64 → Int32 → zHp → Option (Int32 × zHp)} (hk144 : ∀ (a1 : Int32) (a2 : Int32) (a3 : Int32) (a4 : Int32) (a5 : Int64) (a7 : Int64) (a9 : Int32) (h : zHp), k144 a1 a2 a3 a4 a5 a7 a9 h = some q → J 144 [(0, .ref 67), (1, .int a1), (2, .int a2), (3, .int a3), (4, .int a4), (5, .long a5), (7, .long a7), (9, .int a9)] [] 117 zRF h) : ∀ (a1 : Int32) (a2 : Int32) (a3 : Int32) (a4 : Int32) (a7 : Int64) (a9 : Int32) (b0 : Int64) (b1 : Int64) (h : zHp), s_X10_findEffect_L178 k72 k144 a1 a2 a3 a4 a7 a9 b0 b1 h = some q → J 178 [(0, .ref 67), (1, .int a1), (2, .int a2), (3, .int a3), (4, .int a4), (7, .long a7), (9, .int a9)] [.long b1, .long b0] 117 zRF h := by
  intro a1 a2 a3 a4 a7 a9 b0 b1 h e
  unfold s_X10_findEffect_L178 at e
  refine zv_ladd X dX10_findEffect_178 ?_
  refine zb e (fun v1 gv1 e => ?_)
  refine zv_nmJ X gv1 ?_
  refine zv_lstore (i := 5) (lv' := [(5, .long v1), (0, .ref 67), (1, .int a1), (2, .int a2), (3, .int a3), (4, .int a4), (7, .long a7), (9, .int a9)]) X dX10_findEffect_179 (Nat.le_of_ble_eq_true rfl) rfl ?_
  refine zv_lload X dX10_findEffect_181 rfl ?_
  refine zv_aload_n X dX10_findEffect_183 rfl rfl ?_
  refine zv_getR X zf_RX10_157 znt_a zk_67 zb_67 zr_67_58 dX10_findEffect_184 ?_
  refine zv_iload X dX10_findEffect_187 rfl ?_
  refine zb e (fun v2 gv2 e => ?_)
  refine zv_iald X zk_115 zl_115 zb_115 dX10_findEffect_189 gv2 ?_
  refine zv_bipush (v := (12 : Int32)) X dX10_findEffect_190 zbp_12 ?_
  refine zv_icmp_ne (tgt := 207) X dX10_findEffect_192 (by decide) (fun c3 => ?_) (fun c3 => ?_)
  · replace e := zif e c3
    refine zv_lconst (v := (0 : Int64)) X dX10_findEffect_207 rfl ?_
    exact zv_pick X [1, 2, 3, 4, 5, 0, 7] rfl (k_X10_findEffect_L208 q hd X hk72 hk144 _ _ _ _ _ _ _ _ _ e)
  · replace e := zit e c3
    refine zv_aload_n X dX10_findEffect_195 rfl rfl ?_
    refine zv_iload X dX10_findEffect_196 rfl ?_
    refine zv_iload X dX10_findEffect_198 rfl ?_
    refine zv_iconst (v := (0 : Int32)) X dX10_findEffect_200 zic_0 ?_
    refine zb e (fun q4 gq4 e => ?_)
    refine zv_callV (stk := [.int (0 : Int32), .int a4, .int a9, .ref 67, .long a7]) (as := [.int a9, .int a4, .int (0 : Int32)]) (st := [.long a7]) (k := 67) X zl_RX10_315 zm_X10_casesOf (k_X10_casesOf (d := d - 1) (by omega) gq4) (by omega) zb_67 (by rw [zk_67]; rfl) rfl rfl (Nat.le_of_ble_eq_true rfl) (Nat.le_refl _) rfl dX10_findEffect_201 ?_
    show J 204 [(5, .long v1), (0, .ref 67), (1, .int a1), (2, .int a2), (3, .int a3), (4, .int a4), (7, .long a7), (9, .int a9)] [.long q4.1, .long a7] 117 zRF q4.2
    refine zv_goto (tgt := 208) X dX10_findEffect_204 (by decide) ?_
    exact zv_pick X [1, 2, 3, 4, 5, 0, 7] rfl (k_X10_findEffect_L208 q hd X hk72 hk144 _ _ _ _ _ _ _ _ _ e)
set_option maxRecDepth 100000 in
set_option maxHeartbeats 4000000 in
theorem k_X10_findEffect_L246 {l : Launch} {D : va_G} {cy : Nat → ClassId} {S0 d : Nat} {J : zJ} (q : (Int32 × zHp)) (hd : 2 ≤ d) (X : zOK l D cy S0 d RX10 cX10_findEffect 10 (yX10_findEffect.name == "<init>") 117 117 (some .boolean) (zRT 117 zRF (some (.int q.1)) q.2) J) {k72 : Int32 → Int32 → Int32 → zHp → Option (Int32 × zHp)} (hk72 : ∀ (a1 : Int32) (a2 : Int32) (a3 : Int32) (h : zHp), k72 a1 a2 a3 h = some q → J 72 [(0, .ref 67), (1, .int a1), (2, .int a2), (3, .int a3)] [] 117 zRF h) : ∀ (a1 : Int32) (a2 : Int32) (a3 : Int32) (h : zHp), s_X10_findEffect_L246 k72 a1 a2 a3 h = some q → J 246 [(0, .ref 67), (1, .int a1), (2, .int a2), (3, .int a3)] [] 117 zRF h := by
  intro a1 a2 a3 h e
  unfold s_X10_findEffect_L246 at e
  refine zv_iinc (k := 3) (v := a3 + (1 : Int32)) (lv' := [(3, .int (a3 + (1 : Int32))), (0, .ref 67), (1, .int a1), (2, .int a2)]) X dX10_findEffect_246 rfl rfl (Nat.le_of_ble_eq_true rfl) rfl ?_
  refine zv_goto (tgt := 72) X dX10_findEffect_249 (by decide) ?_
  exact zv_pick X [1, 2, 3, 0] rfl (hk72 _ _ _ _ e)
set_option maxRecDepth 100000 in
set_option maxHeartbeats 4000000 in
theorem k_X10_findEffect_L144 {l : Launch} {D : va_G} {cy : Nat → ClassId} {S0 d : Nat} {J : zJ} (q : (Int32 × zHp)) (hd : 2 ≤ d) (X : zOK l D cy S0 d RX10 cX10_findEffect 10 (yX10_findEffect.name == "<init>") 117 117 (some .boolean) (zRT 117 zRF (some (.int q.1)) q.2) J) {k72 : Int32 → Int32 → Int32 → zHp → Option (Int32 × zHp)} (hk72 : ∀ (a1 : Int32) (a2 : Int32) (a3 : Int32) (h : zHp), k72 a1 a2 a3 h = some q → J 72 [(0, .ref 67), (1, .int a1), (2, .int a2), (3, .int a3)] [] 117 zRF h) : ∀ (f : Nat) (a1 : Int32) (a2 : Int32) (a3 : Int32) (a4 : Int32) (a5 : Int64) (a7 : Int64) (a9 : Int32) (h : zHp), s_X10_findEffect_L144 k72 f a1 a2 a3 a4 a5 a7 a9 h = some q → J 144 [(0, .ref 67), (1, .int a1), (2, .int a2), (3, .int a3), (4, .int a4), (5, .long a5), (7, .long a7), (9, .int a9)] [] 117 zRF h := by
  intro f
  induction f with
  | zero => intro _ _ _ _ _ _ _ h e; exact absurd e (fun z => by cases z)
  | succ f ih =>
    intro a1 a2 a3 a4 a5 a7 a9 h e
    rw [s_X10_findEffect_L144] at e
    refine zv_iload X dX10_findEffect_144 rfl ?_
    refine zv_bipush (v := (6 : Int32)) X dX10_findEffect_146 zbp_6 ?_
    refine zv_icmp_ge (tgt := 217) X dX10_findEffect_148 (by decide) (fun c1 => ?_) (fun c1 => ?_)
    · replace e := zit e c1
      refine zv_aload_n X dX10_findEffect_217 rfl rfl ?_
      refine zv_lload X dX10_findEffect_218 rfl ?_
      refine zv_lneg X dX10_findEffect_220 ?_
      refine zv_iload_n X dX10_findEffect_221 rfl rfl ?_
      refine zv_i2l X dX10_findEffect_222 ?_
      refine zv_ldc2 (v := (12 : Int64)) X zc_RX10_323 dX10_findEffect_223 ?_
      refine zv_iload X dX10_findEffect_226 rfl ?_
      refine zv_i2l X dX10_findEffect_228 ?_
      refine zv_lsub X dX10_findEffect_229 ?_
      refine zv_lmul X dX10_findEffect_230 ?_
      refine zb e (fun q2 gq2 e => ?_)
      refine zv_callV (stk := [.long (a1.toInt64 * ((12 : Int64) - a4.toInt64)), .long (-a5), .ref 67]) (as := [.long (-a5), .long (a1.toInt64 * ((12 : Int64) - a4.toInt64))]) (st := []) (k := 67) X zl_RX10_319 zm_X10_addEffect (k_X10_addEffect (d := d - 1) (by omega) gq2) (by omega) zb_67 (by rw [zk_67]; rfl) rfl rfl (Nat.le_of_ble_eq_true rfl) (Nat.le_refl _) rfl dX10_findEffect_231 ?_
      show J 234 [(0, .ref 67), (1, .int a1), (2, .int a2), (3, .int a3), (4, .int a4), (5, .long a5), (7, .long a7), (9, .int a9)] [] 117 zRF q2
      refine zv_aload_n X dX10_findEffect_234 rfl rfl ?_
      refine zv_lload X dX10_findEffect_235 rfl ?_
      refine zv_iload_n X dX10_findEffect_237 rfl rfl ?_
      refine zv_i2l X dX10_findEffect_238 ?_
      refine zv_iload X dX10_findEffect_239 rfl ?_
      refine zv_i2l X dX10_findEffect_241 ?_
      refine zv_lmul X dX10_findEffect_242 ?_
      refine zb e (fun q3 gq3 e => ?_)
      refine zv_callV (stk := [.long (a1.toInt64 * a4.toInt64), .long a7, .ref 67]) (as := [.long a7, .long (a1.toInt64 * a4.toInt64)]) (st := []) (k := 67) X zl_RX10_319 zm_X10_addEffect (k_X10_addEffect (d := d - 1) (by omega) gq3) (by omega) zb_67 (by rw [zk_67]; rfl) rfl rfl (Nat.le_of_ble_eq_true rfl) (Nat.le_refl _) rfl dX10_findEffect_243 ?_
      show J 246 [(0, .ref 67), (1, .int a1), (2, .int a2), (3, .int a3), (4, .int a4), (5, .long a5), (7, .long a7), (9, .int a9)] [] 117 zRF q3
      exact zv_pick X [0, 1, 2, 3] rfl (k_X10_findEffect_L246 q hd X hk72 _ _ _ _ e)
    · replace e := zif e c1
      refine zv_lload X dX10_findEffect_151 rfl ?_
      refine zv_aload_n X dX10_findEffect_153 rfl rfl ?_
      refine zv_getR X zf_RX10_157 znt_a zk_67 zb_67 zr_67_58 dX10_findEffect_154 ?_
      refine zv_iload X dX10_findEffect_157 rfl ?_
      refine zb e (fun v4 gv4 e => ?_)
      refine zv_iald X zk_115 zl_115 zb_115 dX10_findEffect_159 gv4 ?_
      refine zv_bipush (v := (12 : Int32)) X dX10_findEffect_160 zbp_12 ?_
      refine zv_icmp_ne (tgt := 177) X dX10_findEffect_162 (by decide) (fun c5 => ?_) (fun c5 => ?_)
      · replace e := zif e c5
        refine zv_lconst (v := (0 : Int64)) X dX10_findEffect_177 rfl ?_
        exact zv_pick X [0, 1, 2, 3, 4, 6, 7] rfl (k_X10_findEffect_L178 q hd X hk72 ih _ _ _ _ _ _ _ _ _ e)
      · replace e := zit e c5
        refine zv_aload_n X dX10_findEffect_165 rfl rfl ?_
        refine zv_iload X dX10_findEffect_166 rfl ?_
        refine zv_iload X dX10_findEffect_168 rfl ?_
        refine zv_iconst (v := (1 : Int32)) X dX10_findEffect_170 zic_1 ?_
        refine zb e (fun q6 gq6 e => ?_)
        refine zv_callV (stk := [.int (1 : Int32), .int a4, .int a9, .ref 67, .long a5]) (as := [.int a9, .int a4, .int (1 : Int32)]) (st := [.long a5]) (k := 67) X zl_RX10_315 zm_X10_casesOf (k_X10_casesOf (d := d - 1) (by omega) gq6) (by omega) zb_67 (by rw [zk_67]; rfl) rfl rfl (Nat.le_of_ble_eq_true rfl) (Nat.le_refl _) rfl dX10_findEffect_171 ?_
        show J 174 [(0, .ref 67), (1, .int a1), (2, .int a2), (3, .int a3), (4, .int a4), (5, .long a5), (7, .long a7), (9, .int a9)] [.long q6.1, .long a5] 117 zRF q6.2
        refine zv_goto (tgt := 178) X dX10_findEffect_174 (by decide) ?_
        exact zv_pick X [0, 1, 2, 3, 4, 6, 7] rfl (k_X10_findEffect_L178 q hd X hk72 ih _ _ _ _ _ _ _ _ _ e)
set_option maxRecDepth 100000 in
set_option maxHeartbeats 4000000 in
theorem k_X10_findEffect_L316 {l : Launch} {D : va_G} {cy : Nat → ClassId} {S0 d : Nat} {J : zJ} (q : (Int32 × zHp)) (hd : 2 ≤ d) (X : zOK l D cy S0 d RX10 cX10_findEffect 10 (yX10_findEffect.name == "<init>") 117 117 (some .boolean) (zRT 117 zRF (some (.int q.1)) q.2) J) : ∀ (b0 : Int32) (h : zHp), s_X10_findEffect_L316 b0 h = some q → J 316 [] [.int b0] 117 zRF h := by
  intro b0 h e
  unfold s_X10_findEffect_L316 at e
  refine zb e (fun u gu e => ?_)
  exact zv_retZ X e rfl (zbo_ok gu) dX10_findEffect_316
set_option maxRecDepth 100000 in
set_option maxHeartbeats 4000000 in
theorem k_X10_findEffect_L315 {l : Launch} {D : va_G} {cy : Nat → ClassId} {S0 d : Nat} {J : zJ} (q : (Int32 × zHp)) (hd : 2 ≤ d) (X : zOK l D cy S0 d RX10 cX10_findEffect 10 (yX10_findEffect.name == "<init>") 117 117 (some .boolean) (zRT 117 zRF (some (.int q.1)) q.2) J) : ∀  (h : zHp), s_X10_findEffect_L315  h = some q → J 315 [] [] 117 zRF h := by
  intro  h e
  unfold s_X10_findEffect_L315 at e
  refine zv_iconst (v := (0 : Int32)) X dX10_findEffect_315 zic_0 ?_
  exact k_X10_findEffect_L316 q hd X _ _ e
set_option maxRecDepth 100000 in
set_option maxHeartbeats 4000000 in
theorem k_X10_findEffect_L267 {l : Launch} {D : va_G} {cy : Nat → ClassId} {S0 d : Nat} {J : zJ} (q : (Int32 × zHp)) (hd : 2 ≤ d) (X : zOK l D cy S0 d RX10 cX10_findEffect 10 (yX10_findEffect.name == "<init>") 117 117 (some .boolean) (zRT 117 zRF (some (.int q.1)) q.2) J) : ∀ (a1 : Int32) (a2 : Int32) (b1 : Int64) (b2 : Int64) (h : zHp), s_X10_findEffect_L267 a1 a2 b1 b2 h = some q → J 267 [(0, .ref 67), (1, .int a1), (2, .int a2)] [.long b2, .long b1, .ref 67] 117 zRF h := by
  intro a1 a2 b1 b2 h e
  unfold s_X10_findEffect_L267 at e
  refine zv_lmul X dX10_findEffect_267 ?_
  refine zb e (fun v1 gv1 e => ?_)
  refine zv_nmJ X gv1 ?_
  refine zb e (fun h2 gh2 e => ?_)
  refine zv_putL' X zf_RX10_312 zk_67 zb_67 dX10_findEffect_268 gh2 ?_
  refine zv_aload_n X dX10_findEffect_271 rfl rfl ?_
  refine zv_getL X zf_RX10_309 zk_67 zb_67 dX10_findEffect_272 ?_
  refine zv_aload_n X dX10_findEffect_275 rfl rfl ?_
  refine zv_getL X zf_RX10_312 zk_67 zb_67 dX10_findEffect_276 ?_
  refine zb e (fun q3 gq3 e => ?_)
  refine zv_callS (stk := [.long (h2.2 67 60), .long (h2.2 67 59)]) (as := [.long (h2.2 67 59), .long (h2.2 67 60)]) (st := []) X zl_RX10_281 zm_X10_divisor (k_X10_divisor (d := d - 1) (by omega) gq3) (by omega) rfl (Nat.le_of_ble_eq_true rfl) (Nat.le_refl _) rfl dX10_findEffect_279 ?_
  show J 282 [(0, .ref 67), (1, .int a1), (2, .int a2)] [.long q3.1] 117 zRF q3.2
  refine zv_lstore_n (i := 3) (lv' := [(3, .long q3.1), (0, .ref 67), (1, .int a1), (2, .int a2)]) X dX10_findEffect_282 rfl (Nat.le_of_ble_eq_true rfl) rfl ?_
  refine zv_aload_n X dX10_findEffect_283 rfl rfl ?_
  refine zv_dup_r X dX10_findEffect_284 ?_
  refine zv_getL X zf_RX10_309 zk_67 zb_67 dX10_findEffect_285 ?_
  refine zv_lload_n X dX10_findEffect_288 rfl rfl ?_
  refine zb e (fun v4 gv4 e => ?_)
  refine zv_ldiv X dX10_findEffect_289 gv4 ?_
  refine zb e (fun h5 gh5 e => ?_)
  refine zv_putL' X zf_RX10_309 zk_67 zb_67 dX10_findEffect_290 gh5 ?_
  refine zv_aload_n X dX10_findEffect_293 rfl rfl ?_
  refine zv_dup_r X dX10_findEffect_294 ?_
  refine zv_getL X zf_RX10_312 zk_67 zb_67 dX10_findEffect_295 ?_
  refine zv_lload_n X dX10_findEffect_298 rfl rfl ?_
  refine zb e (fun v6 gv6 e => ?_)
  refine zv_ldiv X dX10_findEffect_299 gv6 ?_
  refine zb e (fun h7 gh7 e => ?_)
  refine zv_putL' X zf_RX10_312 zk_67 zb_67 dX10_findEffect_300 gh7 ?_
  refine zv_iload_n X dX10_findEffect_303 rfl rfl ?_
  refine zv_if_le (tgt := 315) X dX10_findEffect_304 (by decide) (fun c8 => ?_) (fun c8 => ?_)
  · replace e := zit e c8
    exact zv_pick X [] rfl (k_X10_findEffect_L315 q hd X  _ e)
  · replace e := zif e c8
    refine zv_iload_n X dX10_findEffect_307 rfl rfl ?_
    refine zv_if_le (tgt := 315) X dX10_findEffect_308 (by decide) (fun c9 => ?_) (fun c9 => ?_)
    · replace e := zit e c9
      exact zv_pick X [] rfl (k_X10_findEffect_L315 q hd X  _ e)
    · replace e := zif e c9
      refine zv_iconst (v := (1 : Int32)) X dX10_findEffect_311 zic_1 ?_
      refine zv_goto (tgt := 316) X dX10_findEffect_312 (by decide) ?_
      exact zv_pick X [] rfl (k_X10_findEffect_L316 q hd X _ _ e)
set_option maxRecDepth 100000 in
set_option maxHeartbeats 4000000 in
theorem k_X10_findEffect_L252 {l : Launch} {D : va_G} {cy : Nat → ClassId} {S0 d : Nat} {J : zJ} (q : (Int32 × zHp)) (hd : 2 ≤ d) (X : zOK l D cy S0 d RX10 cX10_findEffect 10 (yX10_findEffect.name == "<init>") 117 117 (some .boolean) (zRT 117 zRF (some (.int q.1)) q.2) J) : ∀ (a1 : Int32) (a2 : Int32) (h : zHp), s_X10_findEffect_L252 a1 a2 h = some q → J 252 [(0, .ref 67), (1, .int a1), (2, .int a2)] [] 117 zRF h := by
  intro a1 a2 h e
  unfold s_X10_findEffect_L252 at e
  refine zv_aload_n X dX10_findEffect_252 rfl rfl ?_
  refine zv_dup_r X dX10_findEffect_253 ?_
  refine zv_getL X zf_RX10_312 zk_67 zb_67 dX10_findEffect_254 ?_
  refine zv_iload_n X dX10_findEffect_257 rfl rfl ?_
  refine zv_if_le (tgt := 266) X dX10_findEffect_258 (by decide) (fun c1 => ?_) (fun c1 => ?_)
  · replace e := zit e c1
    refine zv_lconst (v := (1 : Int64)) X dX10_findEffect_266 rfl ?_
    exact k_X10_findEffect_L267 q hd X _ _ _ _ _ e
  · replace e := zif e c1
    refine zv_iload_n X dX10_findEffect_261 rfl rfl ?_
    refine zv_i2l X dX10_findEffect_262 ?_
    refine zv_goto (tgt := 267) X dX10_findEffect_263 (by decide) ?_
    exact k_X10_findEffect_L267 q hd X _ _ _ _ _ e
set_option maxRecDepth 100000 in
set_option maxHeartbeats 4000000 in
theorem k_X10_findEffect_L72 {l : Launch} {D : va_G} {cy : Nat → ClassId} {S0 d : Nat} {J : zJ} (q : (Int32 × zHp)) (hd : 2 ≤ d) (X : zOK l D cy S0 d RX10 cX10_findEffect 10 (yX10_findEffect.name == "<init>") 117 117 (some .boolean) (zRT 117 zRF (some (.int q.1)) q.2) J) : ∀ (f : Nat) (a1 : Int32) (a2 : Int32) (a3 : Int32) (h : zHp), s_X10_findEffect_L72 f a1 a2 a3 h = some q → J 72 [(0, .ref 67), (1, .int a1), (2, .int a2), (3, .int a3)] [] 117 zRF h := by
  intro f
  induction f with
  | zero => intro _ _ _ h e; exact absurd e (fun z => by cases z)
  | succ f ih =>
    intro a1 a2 a3 h e
    rw [s_X10_findEffect_L72] at e
    refine zv_iload_n X dX10_findEffect_72 rfl rfl ?_
    refine zv_bipush (v := (6 : Int32)) X dX10_findEffect_73 zbp_6 ?_
    refine zv_icmp_ge (tgt := 252) X dX10_findEffect_75 (by decide) (fun c1 => ?_) (fun c1 => ?_)
    · replace e := zit e c1
      exact zv_pick X [0, 1, 2] rfl (k_X10_findEffect_L252 q hd X _ _ _ e)
    · replace e := zif e c1
      refine zv_iload_n X dX10_findEffect_78 rfl rfl ?_
      refine zv_if_le (tgt := 252) X dX10_findEffect_79 (by decide) (fun c2 => ?_) (fun c2 => ?_)
      · replace e := zit e c2
        exact zv_pick X [0, 1, 2] rfl (k_X10_findEffect_L252 q hd X _ _ _ e)
      · replace e := zif e c2
        refine zv_aload_n X dX10_findEffect_82 rfl rfl ?_
        refine zv_getR X zf_RX10_157 znt_a zk_67 zb_67 zr_67_58 dX10_findEffect_83 ?_
        refine zv_iload_n X dX10_findEffect_86 rfl rfl ?_
        refine zb e (fun v3 gv3 e => ?_)
        refine zv_iald X zk_115 zl_115 zb_115 dX10_findEffect_87 gv3 ?_
        refine zv_istore (i := 4) (lv' := [(4, .int v3), (0, .ref 67), (1, .int a1), (2, .int a2), (3, .int a3)]) X dX10_findEffect_88 (Nat.le_of_ble_eq_true rfl) rfl ?_
        refine zv_iload X dX10_findEffect_90 rfl ?_
        refine zv_iconst (v := (1 : Int32)) X dX10_findEffect_92 zic_1 ?_
        refine zv_bipush (v := (11 : Int32)) X dX10_findEffect_93 zbp_11 ?_
        refine zb e (fun q4 gq4 e => ?_)
        refine zv_callS (stk := [.int (11 : Int32), .int (1 : Int32), .int v3]) (as := [.int v3, .int (1 : Int32), .int (11 : Int32)]) (st := []) X zl_RX10_168 zm_X10_in (k_X10_in (d := d - 1) (by omega) gq4) (by omega) rfl (Nat.le_of_ble_eq_true rfl) (Nat.le_refl _) rfl dX10_findEffect_95 ?_
        show J 98 [(4, .int v3), (0, .ref 67), (1, .int a1), (2, .int a2), (3, .int a3)] [.int q4.1] 117 zRF q4.2
        refine zv_if_eq (tgt := 246) X dX10_findEffect_98 (by decide) (fun c5 => ?_) (fun c5 => ?_)
        · replace e := zit e c5
          exact zv_pick X [1, 2, 3, 4] rfl (k_X10_findEffect_L246 q hd X ih _ _ _ _ e)
        · replace e := zif e c5
          refine zv_aload_n X dX10_findEffect_101 rfl rfl ?_
          refine zv_aload_n X dX10_findEffect_102 rfl rfl ?_
          refine zv_iload_n X dX10_findEffect_103 rfl rfl ?_
          refine zv_iload X dX10_findEffect_104 rfl ?_
          refine zv_iconst (v := (1 : Int32)) X dX10_findEffect_106 zic_1 ?_
          refine zb e (fun q6 gq6 e => ?_)
          refine zv_callV (stk := [.int (1 : Int32), .int v3, .int a3, .ref 67, .ref 67]) (as := [.int a3, .int v3, .int (1 : Int32)]) (st := [.ref 67]) (k := 67) X zl_RX10_315 zm_X10_casesOf (k_X10_casesOf (d := d - 1) (by omega) gq6) (by omega) zb_67 (by rw [zk_67]; rfl) rfl rfl (Nat.le_of_ble_eq_true rfl) (Nat.le_refl _) rfl dX10_findEffect_107 ?_
          show J 110 [(4, .int v3), (0, .ref 67), (1, .int a1), (2, .int a2), (3, .int a3)] [.long q6.1, .ref 67] 117 zRF q6.2
          refine zv_bipush (v := (12 : Int32)) X dX10_findEffect_110 zbp_12 ?_
          refine zv_iload X dX10_findEffect_112 rfl ?_
          refine zv_isub X dX10_findEffect_114 ?_
          refine zv_i2l X dX10_findEffect_115 ?_
          refine zb e (fun q7 gq7 e => ?_)
          refine zv_callV (stk := [.long (((12 : Int32) - v3).toInt64), .long q6.1, .ref 67]) (as := [.long q6.1, .long (((12 : Int32) - v3).toInt64)]) (st := []) (k := 67) X zl_RX10_319 zm_X10_addEffect (k_X10_addEffect (d := d - 1) (by omega) gq7) (by omega) zb_67 (by rw [zk_67]; rfl) rfl rfl (Nat.le_of_ble_eq_true rfl) (Nat.le_refl _) rfl dX10_findEffect_116 ?_
          show J 119 [(4, .int v3), (0, .ref 67), (1, .int a1), (2, .int a2), (3, .int a3)] [] 117 zRF q7
          refine zv_aload_n X dX10_findEffect_119 rfl rfl ?_
          refine zv_aload_n X dX10_findEffect_120 rfl rfl ?_
          refine zv_iload_n X dX10_findEffect_121 rfl rfl ?_
          refine zv_iload X dX10_findEffect_122 rfl ?_
          refine zv_iconst (v := (0 : Int32)) X dX10_findEffect_124 zic_0 ?_
          refine zb e (fun q8 gq8 e => ?_)
          refine zv_callV (stk := [.int (0 : Int32), .int v3, .int a3, .ref 67, .ref 67]) (as := [.int a3, .int v3, .int (0 : Int32)]) (st := [.ref 67]) (k := 67) X zl_RX10_315 zm_X10_casesOf (k_X10_casesOf (d := d - 1) (by omega) gq8) (by omega) zb_67 (by rw [zk_67]; rfl) rfl rfl (Nat.le_of_ble_eq_true rfl) (Nat.le_refl _) rfl dX10_findEffect_125 ?_
          show J 128 [(4, .int v3), (0, .ref 67), (1, .int a1), (2, .int a2), (3, .int a3)] [.long q8.1, .ref 67] 117 zRF q8.2
          refine zv_lneg X dX10_findEffect_128 ?_
          refine zv_iload X dX10_findEffect_129 rfl ?_
          refine zv_i2l X dX10_findEffect_131 ?_
          refine zb e (fun q9 gq9 e => ?_)
          refine zv_callV (stk := [.long v3.toInt64, .long (-q8.1), .ref 67]) (as := [.long (-q8.1), .long v3.toInt64]) (st := []) (k := 67) X zl_RX10_319 zm_X10_addEffect (k_X10_addEffect (d := d - 1) (by omega) gq9) (by omega) zb_67 (by rw [zk_67]; rfl) rfl rfl (Nat.le_of_ble_eq_true rfl) (Nat.le_refl _) rfl dX10_findEffect_132 ?_
          show J 135 [(4, .int v3), (0, .ref 67), (1, .int a1), (2, .int a2), (3, .int a3)] [] 117 zRF q9
          refine zv_lconst (v := (0 : Int64)) X dX10_findEffect_135 rfl ?_
          refine zv_lstore (i := 5) (lv' := [(5, .long (0 : Int64)), (4, .int v3), (0, .ref 67), (1, .int a1), (2, .int a2), (3, .int a3)]) X dX10_findEffect_136 (Nat.le_of_ble_eq_true rfl) rfl ?_
          refine zv_lconst (v := (0 : Int64)) X dX10_findEffect_138 rfl ?_
          refine zv_lstore (i := 7) (lv' := [(7, .long (0 : Int64)), (5, .long (0 : Int64)), (4, .int v3), (0, .ref 67), (1, .int a1), (2, .int a2), (3, .int a3)]) X dX10_findEffect_139 (Nat.le_of_ble_eq_true rfl) rfl ?_
          refine zv_iconst (v := (0 : Int32)) X dX10_findEffect_141 zic_0 ?_
          refine zv_istore (i := 9) (lv' := [(9, .int (0 : Int32)), (7, .long (0 : Int64)), (5, .long (0 : Int64)), (4, .int v3), (0, .ref 67), (1, .int a1), (2, .int a2), (3, .int a3)]) X dX10_findEffect_142 (Nat.le_of_ble_eq_true rfl) rfl ?_
          exact zv_pick X [4, 5, 6, 7, 3, 2, 1, 0] rfl (k_X10_findEffect_L144 q hd X ih _ _ _ _ _ _ _ _ _ e)
set_option maxRecDepth 100000 in
set_option maxHeartbeats 4000000 in
theorem k_X10_findEffect_L6 {l : Launch} {D : va_G} {cy : Nat → ClassId} {S0 d : Nat} {J : zJ} (q : (Int32 × zHp)) (hd : 2 ≤ d) (X : zOK l D cy S0 d RX10 cX10_findEffect 10 (yX10_findEffect.name == "<init>") 117 117 (some .boolean) (zRT 117 zRF (some (.int q.1)) q.2) J) : ∀ (f : Nat) (a1 : Int32) (a2 : Int32) (a3 : Int32) (h : zHp), s_X10_findEffect_L6 f a1 a2 a3 h = some q → J 6 [(0, .ref 67), (1, .int a1), (2, .int a2), (3, .int a3)] [] 117 zRF h := by
  intro f
  induction f with
  | zero => intro _ _ _ h e; exact absurd e (fun z => by cases z)
  | succ f ih =>
    intro a1 a2 a3 h e
    rw [s_X10_findEffect_L6] at e
    refine zv_iload_n X dX10_findEffect_6 rfl rfl ?_
    refine zv_bipush (v := (6 : Int32)) X dX10_findEffect_7 zbp_6 ?_
    refine zv_icmp_ge (tgt := 60) X dX10_findEffect_9 (by decide) (fun c1 => ?_) (fun c1 => ?_)
    · replace e := zit e c1
      refine zv_aload_n X dX10_findEffect_60 rfl rfl ?_
      refine zv_lconst (v := (0 : Int64)) X dX10_findEffect_61 rfl ?_
      refine zb e (fun h2 gh2 e => ?_)
      refine zv_putL' X zf_RX10_309 zk_67 zb_67 dX10_findEffect_62 gh2 ?_
      refine zv_aload_n X dX10_findEffect_65 rfl rfl ?_
      refine zv_lconst (v := (1 : Int64)) X dX10_findEffect_66 rfl ?_
      refine zb e (fun h3 gh3 e => ?_)
      refine zv_putL' X zf_RX10_312 zk_67 zb_67 dX10_findEffect_67 gh3 ?_
      refine zv_iconst (v := (0 : Int32)) X dX10_findEffect_70 zic_0 ?_
      refine zv_istore_n (i := 3) (lv' := [(3, .int (0 : Int32)), (0, .ref 67), (1, .int a1), (2, .int a2)]) X dX10_findEffect_71 rfl (Nat.le_of_ble_eq_true rfl) rfl ?_
      exact zv_pick X [1, 2, 3, 0] rfl (k_X10_findEffect_L72 q hd X _ _ _ _ _ e)
    · replace e := zif e c1
      refine zv_iload_n X dX10_findEffect_12 rfl rfl ?_
      refine zv_aload_n X dX10_findEffect_13 rfl rfl ?_
      refine zv_getR X zf_RX10_157 znt_a zk_67 zb_67 zr_67_58 dX10_findEffect_14 ?_
      refine zv_iload_n X dX10_findEffect_17 rfl rfl ?_
      refine zb e (fun v4 gv4 e => ?_)
      refine zv_iald X zk_115 zl_115 zb_115 dX10_findEffect_18 gv4 ?_
      refine zv_bipush (v := (12 : Int32)) X dX10_findEffect_19 zbp_12 ?_
      refine zv_icmp_ne (tgt := 28) X dX10_findEffect_21 (by decide) (fun c5 => ?_) (fun c5 => ?_)
      · replace e := zif e c5
        refine zv_iconst (v := (0 : Int32)) X dX10_findEffect_28 zic_0 ?_
        exact zv_pick X [0, 2, 3] rfl (k_X10_findEffect_L29 q hd X ih _ _ _ _ _ e)
      · replace e := zit e c5
        refine zv_iconst (v := (1 : Int32)) X dX10_findEffect_24 zic_1 ?_
        refine zv_goto (tgt := 29) X dX10_findEffect_25 (by decide) ?_
        exact zv_pick X [0, 2, 3] rfl (k_X10_findEffect_L29 q hd X ih _ _ _ _ _ e)
set_option maxRecDepth 100000 in
set_option maxHeartbeats 4000000 in
theorem k_X10_findEffect {l : Launch} {D : va_G} {cy : Nat → ClassId} {S0 d : Nat} (hd : 2 ≤ d) {h : zHp} {q : (Int32 × zHp)} (e : s_X10_findEffect  h = some q) : zCT l D cy S0 d yX10_findEffect cX10_findEffect 10 (some .boolean) [.ref 67] 117 zRF h (some (.int q.1)) 117 zRF q.2 := by
  unfold s_X10_findEffect at e
  refine zCT_of RX10 rfl zm_X10_findEffect (Nat.le_refl _) (Nat.le_of_ble_eq_true rfl) (fun J X => ?_)
  show J 0 [(0, .ref 67)] [] 117 zRF h
  refine zv_iconst (v := (0 : Int32)) X dX10_findEffect_0 zic_0 ?_
  refine zv_istore_n (i := 1) (lv' := [(1, .int (0 : Int32)), (0, .ref 67)]) X dX10_findEffect_1 rfl (Nat.le_of_ble_eq_true rfl) rfl ?_
  refine zv_iconst (v := (0 : Int32)) X dX10_findEffect_2 zic_0 ?_
  refine zv_istore_n (i := 2) (lv' := [(2, .int (0 : Int32)), (1, .int (0 : Int32)), (0, .ref 67)]) X dX10_findEffect_3 rfl (Nat.le_of_ble_eq_true rfl) rfl ?_
  refine zv_iconst (v := (0 : Int32)) X dX10_findEffect_4 zic_0 ?_
  refine zv_istore_n (i := 3) (lv' := [(3, .int (0 : Int32)), (2, .int (0 : Int32)), (1, .int (0 : Int32)), (0, .ref 67)]) X dX10_findEffect_5 rfl (Nat.le_of_ble_eq_true rfl) rfl ?_
  exact zv_pick X [3, 2, 1, 0] rfl (k_X10_findEffect_L6 q hd X _ _ _ _ _ e)
-- X10_findTrue
def s_X10_findTrue_L2 : Nat → Int32 → zHp → Option (Int32 × zHp)
  | 0, _, _ => none
  | f + 1, a1, h =>
  if (6 : Int32) ≤ a1 then
    (s_X10_findEffect h).bind fun q2 =>
    (zbo q2.1).bind fun u3 =>
    some (q2.1, q2.2)
  else
    (zri h 113 6 a1).bind fun v4 =>
    (zui h 115 6 a1 v4).bind fun h5 =>
    s_X10_findTrue_L2 f (a1 + (1 : Int32)) h5
def s_X10_findTrue  (h : zHp) : Option (Int32 × zHp) :=
  s_X10_findTrue_L2 zFU (0 : Int32) h
set_option maxRecDepth 100000 in
set_option maxHeartbeats 4000000 in
theorem k_X10_findTrue_L2 {l : Launch} {D : va_G} {cy : Nat → ClassId} {S0 d : Nat} {J : zJ} (q : (Int32 × zHp)) (hd : 3 ≤ d) (X : zOK l D cy S0 d RX10 cX10_findTrue 2 (yX10_findTrue.name == "<init>") 117 117 (some .boolean) (zRT 117 zRF (some (.int q.1)) q.2) J) : ∀ (f : Nat) (a1 : Int32) (h : zHp), s_X10_findTrue_L2 f a1 h = some q → J 2 [(0, .ref 67), (1, .int a1)] [] 117 zRF h := by
  intro f
  induction f with
  | zero => intro _ h e; exact absurd e (fun z => by cases z)
  | succ f ih =>
    intro a1 h e
    rw [s_X10_findTrue_L2] at e
    refine zv_iload_n X dX10_findTrue_2 rfl rfl ?_
    refine zv_bipush (v := (6 : Int32)) X dX10_findTrue_3 zbp_6 ?_
    refine zv_icmp_ge (tgt := 26) X dX10_findTrue_5 (by decide) (fun c1 => ?_) (fun c1 => ?_)
    · replace e := zit e c1
      refine zv_aload_n X dX10_findTrue_26 rfl rfl ?_
      refine zb e (fun q2 gq2 e => ?_)
      refine zv_callV (stk := [.ref 67]) (as := []) (st := []) (k := 67) X zl_RX10_325 zm_X10_findEffect (k_X10_findEffect (d := d - 1) (by omega) gq2) (by omega) zb_67 (by rw [zk_67]; rfl) rfl rfl (Nat.le_of_ble_eq_true rfl) (Nat.le_refl _) rfl dX10_findTrue_27 ?_
      show J 30 [(0, .ref 67), (1, .int a1)] [.int q2.1] 117 zRF q2.2
      refine zb e (fun u gu e => ?_)
      exact zv_retZ X e rfl (zbo_ok gu) dX10_findTrue_30
    · replace e := zif e c1
      refine zv_aload_n X dX10_findTrue_8 rfl rfl ?_
      refine zv_getR X zf_RX10_157 znt_a zk_67 zb_67 zr_67_58 dX10_findTrue_9 ?_
      refine zv_iload_n X dX10_findTrue_12 rfl rfl ?_
      refine zv_aload_n X dX10_findTrue_13 rfl rfl ?_
      refine zv_getR X zf_RX10_151 znt_a zk_67 zb_67 zr_67_56 dX10_findTrue_14 ?_
      refine zv_iload_n X dX10_findTrue_17 rfl rfl ?_
      refine zb e (fun v4 gv4 e => ?_)
      refine zv_iald X zk_113 zl_113 zb_113 dX10_findTrue_18 gv4 ?_
      refine zb e (fun h5 gh5 e => ?_)
      refine zv_iast X zk_115 zl_115 zb_115 dX10_findTrue_19 gh5 ?_
      refine zv_iinc (k := 1) (v := a1 + (1 : Int32)) (lv' := [(1, .int (a1 + (1 : Int32))), (0, .ref 67)]) X dX10_findTrue_20 rfl rfl (Nat.le_of_ble_eq_true rfl) rfl ?_
      refine zv_goto (tgt := 2) X dX10_findTrue_23 (by decide) ?_
      exact zv_pick X [1, 0] rfl (ih _ _ e)
set_option maxRecDepth 100000 in
set_option maxHeartbeats 4000000 in
theorem k_X10_findTrue {l : Launch} {D : va_G} {cy : Nat → ClassId} {S0 d : Nat} (hd : 3 ≤ d) {h : zHp} {q : (Int32 × zHp)} (e : s_X10_findTrue  h = some q) : zCT l D cy S0 d yX10_findTrue cX10_findTrue 2 (some .boolean) [.ref 67] 117 zRF h (some (.int q.1)) 117 zRF q.2 := by
  unfold s_X10_findTrue at e
  refine zCT_of RX10 rfl zm_X10_findTrue (Nat.le_refl _) (Nat.le_of_ble_eq_true rfl) (fun J X => ?_)
  show J 0 [(0, .ref 67)] [] 117 zRF h
  refine zv_iconst (v := (0 : Int32)) X dX10_findTrue_0 zic_0 ?_
  refine zv_istore_n (i := 1) (lv' := [(1, .int (0 : Int32)), (0, .ref 67)]) X dX10_findTrue_1 rfl (Nat.le_of_ble_eq_true rfl) rfl ?_
  exact zv_pick X [1, 0] rfl (k_X10_findTrue_L2 q hd X _ _ _ e)
-- X10_effect
def s_X10_effect_L45 (b0 : Int64) (h : zHp) : Option (Int64 × zHp) :=
  some (b0, h)
def s_X10_effect (a1 : Int32) (h : zHp) : Option (Int64 × zHp) :=
  (s_X10_in a1 (0 : Int32) (1 : Int32) h).bind fun q1 =>
  if q1.1 = 0 then
    (s_X10_refuseFar (-2 : Int32) q1.2).bind fun q7 =>
    some (q7.1, q7.2)
  else
    (s_X10_findTrue q1.2).bind fun q3 =>
    if q3.1 = 0 then
      (s_X10_refuseFar (-3 : Int32) q3.2).bind fun q6 =>
      some (q6.1, q6.2)
    else
      if a1 = 0 then
        s_X10_effect_L45 (q3.2.2 67 59) q3.2
      else
        s_X10_effect_L45 (q3.2.2 67 60) q3.2
set_option maxRecDepth 100000 in
set_option maxHeartbeats 4000000 in
theorem k_X10_effect_L45 {l : Launch} {D : va_G} {cy : Nat → ClassId} {S0 d : Nat} {J : zJ} (q : (Int64 × zHp)) (hd : 4 ≤ d) (X : zOK l D cy S0 d RX10 cX10_effect 2 (yX10_effect.name == "<init>") 117 117 (some .long) (zRT 117 zRF (some (.long q.1)) q.2) J) : ∀ (b0 : Int64) (h : zHp), s_X10_effect_L45 b0 h = some q → J 45 [] [.long b0] 117 zRF h := by
  intro b0 h e
  unfold s_X10_effect_L45 at e
  exact zv_retL X e rfl dX10_effect_45
set_option maxRecDepth 100000 in
set_option maxHeartbeats 4000000 in
theorem k_X10_effect {l : Launch} {D : va_G} {cy : Nat → ClassId} {S0 d : Nat} (hd : 4 ≤ d) {a1 : Int32} {h : zHp} {q : (Int64 × zHp)} (e : s_X10_effect a1 h = some q) : zCT l D cy S0 d yX10_effect cX10_effect 2 (some .long) [.ref 67, .int a1] 117 zRF h (some (.long q.1)) 117 zRF q.2 := by
  unfold s_X10_effect at e
  refine zCT_of RX10 rfl zm_X10_effect (Nat.le_refl _) (Nat.le_of_ble_eq_true rfl) (fun J X => ?_)
  show J 0 [(0, .ref 67), (1, .int a1)] [] 117 zRF h
  refine zv_iload_n X dX10_effect_0 rfl rfl ?_
  refine zv_iconst (v := (0 : Int32)) X dX10_effect_1 zic_0 ?_
  refine zv_iconst (v := (1 : Int32)) X dX10_effect_2 zic_1 ?_
  refine zb e (fun q1 gq1 e => ?_)
  refine zv_callS (stk := [.int (1 : Int32), .int (0 : Int32), .int a1]) (as := [.int a1, .int (0 : Int32), .int (1 : Int32)]) (st := []) X zl_RX10_168 zm_X10_in (k_X10_in (d := d - 1) (by omega) gq1) (by omega) rfl (Nat.le_of_ble_eq_true rfl) (Nat.le_refl _) rfl dX10_effect_3 ?_
  show J 6 [(0, .ref 67), (1, .int a1)] [.int q1.1] 117 zRF q1.2
  refine zv_if_ne (tgt := 16) X dX10_effect_6 (by decide) (fun c2 => ?_) (fun c2 => ?_)
  · replace e := zif e c2
    refine zv_aload_n X dX10_effect_16 rfl rfl ?_
    refine zb e (fun q3 gq3 e => ?_)
    refine zv_callV (stk := [.ref 67]) (as := []) (st := []) (k := 67) X zl_RX10_329 zm_X10_findTrue (k_X10_findTrue (d := d - 1) (by omega) gq3) (by omega) zb_67 (by rw [zk_67]; rfl) rfl rfl (Nat.le_of_ble_eq_true rfl) (Nat.le_refl _) rfl dX10_effect_17 ?_
    show J 20 [(0, .ref 67), (1, .int a1)] [.int q3.1] 117 zRF q3.2
    refine zv_if_ne (tgt := 30) X dX10_effect_20 (by decide) (fun c4 => ?_) (fun c4 => ?_)
    · replace e := zif e c4
      refine zv_iload_n X dX10_effect_30 rfl rfl ?_
      refine zv_if_ne (tgt := 41) X dX10_effect_31 (by decide) (fun c5 => ?_) (fun c5 => ?_)
      · replace e := zif e c5
        refine zv_aload_n X dX10_effect_41 rfl rfl ?_
        refine zv_getL X zf_RX10_312 zk_67 zb_67 dX10_effect_42 ?_
        exact zv_pick X [] rfl (k_X10_effect_L45 q hd X _ _ e)
      · replace e := zit e c5
        refine zv_aload_n X dX10_effect_34 rfl rfl ?_
        refine zv_getL X zf_RX10_309 zk_67 zb_67 dX10_effect_35 ?_
        refine zv_goto (tgt := 45) X dX10_effect_38 (by decide) ?_
        exact zv_pick X [] rfl (k_X10_effect_L45 q hd X _ _ e)
    · replace e := zit e c4
      refine zv_aload_n X dX10_effect_23 rfl rfl ?_
      refine zv_bipush (v := (-3 : Int32)) X dX10_effect_24 zbp_m3 ?_
      refine zb e (fun q6 gq6 e => ?_)
      refine zv_callV (stk := [.int (-3 : Int32), .ref 67]) (as := [.int (-3 : Int32)]) (st := []) (k := 67) X zl_RX10_285 zm_X10_refuseFar (k_X10_refuseFar (d := d - 1) (by omega) gq6) (by omega) zb_67 (by rw [zk_67]; rfl) rfl rfl (Nat.le_of_ble_eq_true rfl) (Nat.le_refl _) rfl dX10_effect_26 ?_
      show J 29 [(0, .ref 67), (1, .int a1)] [.long q6.1] 117 zRF q6.2
      exact zv_retL X e rfl dX10_effect_29
  · replace e := zit e c2
    refine zv_aload_n X dX10_effect_9 rfl rfl ?_
    refine zv_bipush (v := (-2 : Int32)) X dX10_effect_10 zbp_m2 ?_
    refine zb e (fun q7 gq7 e => ?_)
    refine zv_callV (stk := [.int (-2 : Int32), .ref 67]) (as := [.int (-2 : Int32)]) (st := []) (k := 67) X zl_RX10_285 zm_X10_refuseFar (k_X10_refuseFar (d := d - 1) (by omega) gq7) (by omega) zb_67 (by rw [zk_67]; rfl) rfl rfl (Nat.le_of_ble_eq_true rfl) (Nat.le_refl _) rfl dX10_effect_12 ?_
    show J 15 [(0, .ref 67), (1, .int a1)] [.long q7.1] 117 zRF q7.2
    exact zv_retL X e rfl dX10_effect_15
-- X7_deal
def s_X7_deal_L30 : Nat → Int32 → Int32 → zHp → Option zHp
  | 0, _, _, _ => none
  | f + 1, a2, a3, h =>
  if (6 : Int32) ≤ a3 then
    some h
  else
    (some ((6 : Int32) - a3)).bind fun v2 =>
    (s_J9_floorMod_7cf53 a2 v2 h).bind fun q3 =>
    (zdiv a2 v2).bind fun v4 =>
    (zri q3.2 63 6 q3.1).bind fun v5 =>
    (zui q3.2 64 6 a3 v5).bind fun h6 =>
    (zri h6 63 6 (v2 - (1 : Int32))).bind fun v7 =>
    (zui h6 63 6 q3.1 v7).bind fun h8 =>
    s_X7_deal_L30 f v4 (a3 + (1 : Int32)) h8
def s_X7_deal_L2 : Nat → Int32 → Int32 → zHp → Option zHp
  | 0, _, _, _ => none
  | f + 1, a1, a2, h =>
  if (6 : Int32) ≤ a2 then
    s_X7_deal_L30 zFU a1 (0 : Int32) h
  else
    (zri h 60 6 a2).bind fun v2 =>
    (zui h 63 6 a2 v2).bind fun h3 =>
    s_X7_deal_L2 f a1 (a2 + (1 : Int32)) h3
def s_X7_deal (a1 : Int32) (h : zHp) : Option zHp :=
  s_X7_deal_L2 zFU a1 (0 : Int32) h
set_option maxRecDepth 100000 in
set_option maxHeartbeats 4000000 in
theorem k_X7_deal_L30 {l : Launch} {D : va_G} {cy : Nat → ClassId} {S0 d : Nat} {J : zJ} (q : zHp) (hd : 1 ≤ d) (X : zOK l D cy S0 d RX7 cX7_deal 6 (yX7_deal.name == "<init>") 117 117 none (zRT 117 zRF none q) J) : ∀ (f : Nat) (a2 : Int32) (a3 : Int32) (h : zHp), s_X7_deal_L30 f a2 a3 h = some q → J 30 [(0, .ref 59), (2, .int a2), (3, .int a3)] [] 117 zRF h := by
  intro f
  induction f with
  | zero => intro _ _ h e; exact absurd e (fun z => by cases z)
  | succ f ih =>
    intro a2 a3 h e
    rw [s_X7_deal_L30] at e
    refine zv_iload_n X dX7_deal_30 rfl rfl ?_
    refine zv_bipush (v := (6 : Int32)) X dX7_deal_31 zbp_6 ?_
    refine zv_icmp_ge (tgt := 90) X dX7_deal_33 (by decide) (fun c1 => ?_) (fun c1 => ?_)
    · replace e := zit e c1
      exact zv_retV X e rfl dX7_deal_90
    · replace e := zif e c1
      refine zv_bipush (v := (6 : Int32)) X dX7_deal_36 zbp_6 ?_
      refine zv_iload_n X dX7_deal_38 rfl rfl ?_
      refine zv_isub X dX7_deal_39 ?_
      refine zb e (fun v2 gv2 e => ?_)
      refine zv_nmI X gv2 ?_
      refine zv_istore (i := 4) (lv' := [(4, .int v2), (0, .ref 59), (2, .int a2), (3, .int a3)]) X dX7_deal_40 (Nat.le_of_ble_eq_true rfl) rfl ?_
      refine zv_iload_n X dX7_deal_42 rfl rfl ?_
      refine zv_iload X dX7_deal_43 rfl ?_
      refine zb e (fun q3 gq3 e => ?_)
      refine zv_callS (stk := [.int v2, .int a2]) (as := [.int a2, .int v2]) (st := []) X zl_RX7_73 zm_J9_floorMod_7cf53 (k_J9_floorMod_7cf53 (d := d - 1) (by omega) gq3) (by omega) rfl (Nat.le_of_ble_eq_true rfl) (Nat.le_refl _) rfl dX7_deal_45 ?_
      show J 48 [(4, .int v2), (0, .ref 59), (2, .int a2), (3, .int a3)] [.int q3.1] 117 zRF q3.2
      refine zv_istore (i := 5) (lv' := [(5, .int q3.1), (4, .int v2), (0, .ref 59), (2, .int a2), (3, .int a3)]) X dX7_deal_48 (Nat.le_of_ble_eq_true rfl) rfl ?_
      refine zv_iload_n X dX7_deal_50 rfl rfl ?_
      refine zv_iload X dX7_deal_51 rfl ?_
      refine zb e (fun v4 gv4 e => ?_)
      refine zv_idiv X dX7_deal_53 gv4 ?_
      refine zv_istore_n (i := 2) (lv' := [(2, .int v4), (5, .int q3.1), (4, .int v2), (0, .ref 59), (3, .int a3)]) X dX7_deal_54 rfl (Nat.le_of_ble_eq_true rfl) rfl ?_
      refine zv_aload_n X dX7_deal_55 rfl rfl ?_
      refine zv_getR X zf_RX7_25 znt_a zk_59 zb_59 zr_59_4 dX7_deal_56 ?_
      refine zv_iload_n X dX7_deal_59 rfl rfl ?_
      refine zv_aload_n X dX7_deal_60 rfl rfl ?_
      refine zv_getR X zf_RX7_22 znt_a zk_59 zb_59 zr_59_3 dX7_deal_61 ?_
      refine zv_iload X dX7_deal_64 rfl ?_
      refine zb e (fun v5 gv5 e => ?_)
      refine zv_iald X zk_63 zl_63 zb_63 dX7_deal_66 gv5 ?_
      refine zb e (fun h6 gh6 e => ?_)
      refine zv_iast X zk_64 zl_64 zb_64 dX7_deal_67 gh6 ?_
      refine zv_aload_n X dX7_deal_68 rfl rfl ?_
      refine zv_getR X zf_RX7_22 znt_a zk_59 zb_59 zr_59_3 dX7_deal_69 ?_
      refine zv_iload X dX7_deal_72 rfl ?_
      refine zv_aload_n X dX7_deal_74 rfl rfl ?_
      refine zv_getR X zf_RX7_22 znt_a zk_59 zb_59 zr_59_3 dX7_deal_75 ?_
      refine zv_iload X dX7_deal_78 rfl ?_
      refine zv_iconst (v := (1 : Int32)) X dX7_deal_80 zic_1 ?_
      refine zv_isub X dX7_deal_81 ?_
      refine zb e (fun v7 gv7 e => ?_)
      refine zv_iald X zk_63 zl_63 zb_63 dX7_deal_82 gv7 ?_
      refine zb e (fun h8 gh8 e => ?_)
      refine zv_iast X zk_63 zl_63 zb_63 dX7_deal_83 gh8 ?_
      refine zv_iinc (k := 4) (v := a3 + (1 : Int32)) (lv' := [(3, .int (a3 + (1 : Int32))), (2, .int v4), (5, .int q3.1), (4, .int v2), (0, .ref 59)]) X dX7_deal_84 rfl rfl (Nat.le_of_ble_eq_true rfl) rfl ?_
      refine zv_goto (tgt := 30) X dX7_deal_87 (by decide) ?_
      exact zv_pick X [4, 1, 0] rfl (ih _ _ _ e)
set_option maxRecDepth 100000 in
set_option maxHeartbeats 4000000 in
theorem k_X7_deal_L2 {l : Launch} {D : va_G} {cy : Nat → ClassId} {S0 d : Nat} {J : zJ} (q : zHp) (hd : 1 ≤ d) (X : zOK l D cy S0 d RX7 cX7_deal 6 (yX7_deal.name == "<init>") 117 117 none (zRT 117 zRF none q) J) : ∀ (f : Nat) (a1 : Int32) (a2 : Int32) (h : zHp), s_X7_deal_L2 f a1 a2 h = some q → J 2 [(0, .ref 59), (1, .int a1), (2, .int a2)] [] 117 zRF h := by
  intro f
  induction f with
  | zero => intro _ _ h e; exact absurd e (fun z => by cases z)
  | succ f ih =>
    intro a1 a2 h e
    rw [s_X7_deal_L2] at e
    refine zv_iload_n X dX7_deal_2 rfl rfl ?_
    refine zv_bipush (v := (6 : Int32)) X dX7_deal_3 zbp_6 ?_
    refine zv_icmp_ge (tgt := 26) X dX7_deal_5 (by decide) (fun c1 => ?_) (fun c1 => ?_)
    · replace e := zit e c1
      refine zv_iload_n X dX7_deal_26 rfl rfl ?_
      refine zv_istore_n (i := 2) (lv' := [(2, .int a1), (0, .ref 59), (1, .int a1)]) X dX7_deal_27 rfl (Nat.le_of_ble_eq_true rfl) rfl ?_
      refine zv_iconst (v := (0 : Int32)) X dX7_deal_28 zic_0 ?_
      refine zv_istore_n (i := 3) (lv' := [(3, .int (0 : Int32)), (2, .int a1), (0, .ref 59), (1, .int a1)]) X dX7_deal_29 rfl (Nat.le_of_ble_eq_true rfl) rfl ?_
      exact zv_pick X [2, 1, 0] rfl (k_X7_deal_L30 q hd X _ _ _ _ e)
    · replace e := zif e c1
      refine zv_aload_n X dX7_deal_8 rfl rfl ?_
      refine zv_getR X zf_RX7_22 znt_a zk_59 zb_59 zr_59_3 dX7_deal_9 ?_
      refine zv_iload_n X dX7_deal_12 rfl rfl ?_
      refine zv_aload_n X dX7_deal_13 rfl rfl ?_
      refine zv_getR X zf_RX7_9 znt_a zk_59 zb_59 zr_59_0 dX7_deal_14 ?_
      refine zv_iload_n X dX7_deal_17 rfl rfl ?_
      refine zb e (fun v2 gv2 e => ?_)
      refine zv_iald X zk_60 zl_60 zb_60 dX7_deal_18 gv2 ?_
      refine zb e (fun h3 gh3 e => ?_)
      refine zv_iast X zk_63 zl_63 zb_63 dX7_deal_19 gh3 ?_
      refine zv_iinc (k := 2) (v := a2 + (1 : Int32)) (lv' := [(2, .int (a2 + (1 : Int32))), (0, .ref 59), (1, .int a1)]) X dX7_deal_20 rfl rfl (Nat.le_of_ble_eq_true rfl) rfl ?_
      refine zv_goto (tgt := 2) X dX7_deal_23 (by decide) ?_
      exact zv_pick X [1, 2, 0] rfl (ih _ _ _ e)
set_option maxRecDepth 100000 in
set_option maxHeartbeats 4000000 in
theorem k_X7_deal {l : Launch} {D : va_G} {cy : Nat → ClassId} {S0 d : Nat} (hd : 1 ≤ d) {a1 : Int32} {h : zHp} {q : zHp} (e : s_X7_deal a1 h = some q) : zCT l D cy S0 d yX7_deal cX7_deal 6 none [.ref 59, .int a1] 117 zRF h none 117 zRF q := by
  unfold s_X7_deal at e
  refine zCT_of RX7 rfl zm_X7_deal (Nat.le_refl _) (Nat.le_of_ble_eq_true rfl) (fun J X => ?_)
  show J 0 [(0, .ref 59), (1, .int a1)] [] 117 zRF h
  refine zv_iconst (v := (0 : Int32)) X dX7_deal_0 zic_0 ?_
  refine zv_istore_n (i := 2) (lv' := [(2, .int (0 : Int32)), (0, .ref 59), (1, .int a1)]) X dX7_deal_1 rfl (Nat.le_of_ble_eq_true rfl) rfl ?_
  exact zv_pick X [1, 2, 0] rfl (k_X7_deal_L2 q hd X _ _ _ _ e)
-- X7_neverRise_64
def s_X7_neverRise_64_L36 (k5 : Int32 → Int64 → Int32 → zHp → Option (Int64 × zHp)) (a2 : Int32) (a3 : Int64) (a5 : Int32) (h : zHp) : Option (Int64 × zHp) :=
  k5 a2 a3 (a5 + (1 : Int32)) h
def s_X7_neverRise_64_L5 : Nat → Int32 → Int64 → Int32 → zHp → Option (Int64 × zHp)
  | 0, _, _, _, _ => none
  | f + 1, a2, a3, a5, h =>
  if (6 : Int32) ≤ a5 then
    some (a3, h)
  else
    (zri h 64 6 a5).bind fun v2 =>
    if v2 = (12 : Int32) then
      (zrj h 62 72 ((a5 * (12 : Int32)) + a2)).bind fun v4 =>
      (some (a3 + v4)).bind fun v5 =>
      s_X7_neverRise_64_L36 (s_X7_neverRise_64_L5 f) a2 v5 a5 h
    else
      s_X7_neverRise_64_L36 (s_X7_neverRise_64_L5 f) a2 a3 a5 h
def s_X7_neverRise_64 (a2 : Int32) (h : zHp) : Option (Int64 × zHp) :=
  s_X7_neverRise_64_L5 zFU a2 (0 : Int64) (0 : Int32) h
set_option maxRecDepth 100000 in
set_option maxHeartbeats 4000000 in
theorem k_X7_neverRise_64_L36 {l : Launch} {D : va_G} {cy : Nat → ClassId} {S0 d : Nat} {J : zJ} (q : (Int64 × zHp)) (hd : 0 ≤ d) (X : zOK l D cy S0 d RX7 cX7_neverRise 6 (yX7_neverRise.name == "<init>") 117 117 (some .long) (zRT 117 zRF (some (.long q.1)) q.2) J) {k5 : Int32 → Int64 → Int32 → zHp → Option (Int64 × zHp)} (hk5 : ∀ (a2 : Int32) (a3 : Int64) (a5 : Int32) (h : zHp), k5 a2 a3 a5 h = some q → J 5 [(0, .ref 59), (1, .ref 64), (2, .int a2), (3, .long a3), (5, .int a5)] [] 117 zRF h) : ∀ (a2 : Int32) (a3 : Int64) (a5 : Int32) (h : zHp), s_X7_neverRise_64_L36 k5 a2 a3 a5 h = some q → J 36 [(0, .ref 59), (1, .ref 64), (2, .int a2), (3, .long a3), (5, .int a5)] [] 117 zRF h := by
  intro a2 a3 a5 h e
  unfold s_X7_neverRise_64_L36 at e
  refine zv_iinc (k := 4) (v := a5 + (1 : Int32)) (lv' := [(5, .int (a5 + (1 : Int32))), (0, .ref 59), (1, .ref 64), (2, .int a2), (3, .long a3)]) X dX7_neverRise_36 rfl rfl (Nat.le_of_ble_eq_true rfl) rfl ?_
  refine zv_goto (tgt := 5) X dX7_neverRise_39 (by decide) ?_
  exact zv_pick X [1, 2, 3, 4, 0] rfl (hk5 _ _ _ _ e)
set_option maxRecDepth 100000 in
set_option maxHeartbeats 4000000 in
theorem k_X7_neverRise_64_L5 {l : Launch} {D : va_G} {cy : Nat → ClassId} {S0 d : Nat} {J : zJ} (q : (Int64 × zHp)) (hd : 0 ≤ d) (X : zOK l D cy S0 d RX7 cX7_neverRise 6 (yX7_neverRise.name == "<init>") 117 117 (some .long) (zRT 117 zRF (some (.long q.1)) q.2) J) : ∀ (f : Nat) (a2 : Int32) (a3 : Int64) (a5 : Int32) (h : zHp), s_X7_neverRise_64_L5 f a2 a3 a5 h = some q → J 5 [(0, .ref 59), (1, .ref 64), (2, .int a2), (3, .long a3), (5, .int a5)] [] 117 zRF h := by
  intro f
  induction f with
  | zero => intro _ _ _ h e; exact absurd e (fun z => by cases z)
  | succ f ih =>
    intro a2 a3 a5 h e
    rw [s_X7_neverRise_64_L5] at e
    refine zv_iload X dX7_neverRise_5 rfl ?_
    refine zv_bipush (v := (6 : Int32)) X dX7_neverRise_7 zbp_6 ?_
    refine zv_icmp_ge (tgt := 42) X dX7_neverRise_9 (by decide) (fun c1 => ?_) (fun c1 => ?_)
    · replace e := zit e c1
      refine zv_lload_n X dX7_neverRise_42 rfl rfl ?_
      exact zv_retL X e rfl dX7_neverRise_43
    · replace e := zif e c1
      refine zv_aload_n X dX7_neverRise_12 rfl rfl ?_
      refine zv_iload X dX7_neverRise_13 rfl ?_
      refine zb e (fun v2 gv2 e => ?_)
      refine zv_iald X zk_64 zl_64 zb_64 dX7_neverRise_15 gv2 ?_
      refine zv_bipush (v := (12 : Int32)) X dX7_neverRise_16 zbp_12 ?_
      refine zv_icmp_ne (tgt := 36) X dX7_neverRise_18 (by decide) (fun c3 => ?_) (fun c3 => ?_)
      · replace e := zif e c3
        exact k_X7_neverRise_64_L36 q hd X ih _ _ _ _ e
      · replace e := zit e c3
        refine zv_lload_n X dX7_neverRise_21 rfl rfl ?_
        refine zv_aload_n X dX7_neverRise_22 rfl rfl ?_
        refine zv_getR X zf_RX7_18 znt_a zk_59 zb_59 zr_59_2 dX7_neverRise_23 ?_
        refine zv_iload X dX7_neverRise_26 rfl ?_
        refine zv_bipush (v := (12 : Int32)) X dX7_neverRise_28 zbp_12 ?_
        refine zv_imul X dX7_neverRise_30 ?_
        refine zv_iload_n X dX7_neverRise_31 rfl rfl ?_
        refine zv_iadd X dX7_neverRise_32 ?_
        refine zb e (fun v4 gv4 e => ?_)
        refine zv_lald X zk_62 zl_62 zb_62 dX7_neverRise_33 gv4 ?_
        refine zv_ladd X dX7_neverRise_34 ?_
        refine zb e (fun v5 gv5 e => ?_)
        refine zv_nmJ X gv5 ?_
        refine zv_lstore_n (i := 3) (lv' := [(3, .long v5), (0, .ref 59), (1, .ref 64), (2, .int a2), (5, .int a5)]) X dX7_neverRise_35 rfl (Nat.le_of_ble_eq_true rfl) rfl ?_
        exact zv_pick X [1, 2, 3, 0, 4] rfl (k_X7_neverRise_64_L36 q hd X ih _ _ _ _ e)
set_option maxRecDepth 100000 in
set_option maxHeartbeats 4000000 in
theorem k_X7_neverRise_64 {l : Launch} {D : va_G} {cy : Nat → ClassId} {S0 d : Nat} (hd : 0 ≤ d) {a2 : Int32} {h : zHp} {q : (Int64 × zHp)} (e : s_X7_neverRise_64 a2 h = some q) : zCT l D cy S0 d yX7_neverRise cX7_neverRise 6 (some .long) [.ref 59, .ref 64, .int a2] 117 zRF h (some (.long q.1)) 117 zRF q.2 := by
  unfold s_X7_neverRise_64 at e
  refine zCT_of RX7 rfl zm_X7_neverRise (Nat.le_refl _) (Nat.le_of_ble_eq_true rfl) (fun J X => ?_)
  show J 0 [(0, .ref 59), (1, .ref 64), (2, .int a2)] [] 117 zRF h
  refine zv_lconst (v := (0 : Int64)) X dX7_neverRise_0 rfl ?_
  refine zv_lstore_n (i := 3) (lv' := [(3, .long (0 : Int64)), (0, .ref 59), (1, .ref 64), (2, .int a2)]) X dX7_neverRise_1 rfl (Nat.le_of_ble_eq_true rfl) rfl ?_
  refine zv_iconst (v := (0 : Int32)) X dX7_neverRise_2 zic_0 ?_
  refine zv_istore (i := 5) (lv' := [(5, .int (0 : Int32)), (3, .long (0 : Int64)), (0, .ref 59), (1, .ref 64), (2, .int a2)]) X dX7_neverRise_3 (Nat.le_of_ble_eq_true rfl) rfl ?_
  exact zv_pick X [2, 3, 4, 1, 0] rfl (k_X7_neverRise_64_L5 q hd X _ _ _ _ _ e)
-- X7_effectBy_64
def s_X7_effectBy_64_L58 (k10 : Int32 → Int64 → Int32 → zHp → Option (Int64 × zHp)) (a2 : Int32) (a3 : Int64) (a5 : Int32) (h : zHp) : Option (Int64 × zHp) :=
  k10 a2 a3 (a5 + (1 : Int32)) h
def s_X7_effectBy_64_L10 : Nat → Int32 → Int64 → Int32 → zHp → Option (Int64 × zHp)
  | 0, _, _, _, _ => none
  | f + 1, a2, a3, a5, h =>
  if (6 : Int32) ≤ a5 then
    some (a3, h)
  else
    (zri h 64 6 a5).bind fun v2 =>
    (s_X7_isStarted v2 h).bind fun q3 =>
    if q3.1 = 0 then
      s_X7_effectBy_64_L58 (s_X7_effectBy_64_L10 f) a2 a3 a5 q3.2
    else
      (zrj q3.2 62 72 ((a5 * (12 : Int32)) + v2)).bind fun v5 =>
      (s_X7_neverRise_64 v2 q3.2).bind fun q6 =>
      (some (a3 + ((a2.toInt64 * v5) - q6.1))).bind fun v7 =>
      s_X7_effectBy_64_L58 (s_X7_effectBy_64_L10 f) a2 v7 a5 q6.2
def s_X7_effectBy_64  (h : zHp) : Option (Int64 × zHp) :=
  (s_X7_neverSize h).bind fun q1 =>
  s_X7_effectBy_64_L10 zFU q1.1 (0 : Int64) (0 : Int32) q1.2
set_option maxRecDepth 100000 in
set_option maxHeartbeats 4000000 in
theorem k_X7_effectBy_64_L58 {l : Launch} {D : va_G} {cy : Nat → ClassId} {S0 d : Nat} {J : zJ} (q : (Int64 × zHp)) (hd : 1 ≤ d) (X : zOK l D cy S0 d RX7 cX7_effectBy 7 (yX7_effectBy.name == "<init>") 117 117 (some .long) (zRT 117 zRF (some (.long q.1)) q.2) J) {k10 : Int32 → Int64 → Int32 → zHp → Option (Int64 × zHp)} (hk10 : ∀ (a2 : Int32) (a3 : Int64) (a5 : Int32) (h : zHp), k10 a2 a3 a5 h = some q → J 10 [(0, .ref 59), (1, .ref 64), (2, .int a2), (3, .long a3), (5, .int a5)] [] 117 zRF h) : ∀ (a2 : Int32) (a3 : Int64) (a5 : Int32) (h : zHp), s_X7_effectBy_64_L58 k10 a2 a3 a5 h = some q → J 58 [(0, .ref 59), (1, .ref 64), (2, .int a2), (3, .long a3), (5, .int a5)] [] 117 zRF h := by
  intro a2 a3 a5 h e
  unfold s_X7_effectBy_64_L58 at e
  refine zv_iinc (k := 4) (v := a5 + (1 : Int32)) (lv' := [(5, .int (a5 + (1 : Int32))), (0, .ref 59), (1, .ref 64), (2, .int a2), (3, .long a3)]) X dX7_effectBy_58 rfl rfl (Nat.le_of_ble_eq_true rfl) rfl ?_
  refine zv_goto (tgt := 10) X dX7_effectBy_61 (by decide) ?_
  exact zv_pick X [1, 2, 3, 4, 0] rfl (hk10 _ _ _ _ e)
set_option maxRecDepth 100000 in
set_option maxHeartbeats 4000000 in
theorem k_X7_effectBy_64_L10 {l : Launch} {D : va_G} {cy : Nat → ClassId} {S0 d : Nat} {J : zJ} (q : (Int64 × zHp)) (hd : 1 ≤ d) (X : zOK l D cy S0 d RX7 cX7_effectBy 7 (yX7_effectBy.name == "<init>") 117 117 (some .long) (zRT 117 zRF (some (.long q.1)) q.2) J) : ∀ (f : Nat) (a2 : Int32) (a3 : Int64) (a5 : Int32) (h : zHp), s_X7_effectBy_64_L10 f a2 a3 a5 h = some q → J 10 [(0, .ref 59), (1, .ref 64), (2, .int a2), (3, .long a3), (5, .int a5)] [] 117 zRF h := by
  intro f
  induction f with
  | zero => intro _ _ _ h e; exact absurd e (fun z => by cases z)
  | succ f ih =>
    intro a2 a3 a5 h e
    rw [s_X7_effectBy_64_L10] at e
    refine zv_iload X dX7_effectBy_10 rfl ?_
    refine zv_bipush (v := (6 : Int32)) X dX7_effectBy_12 zbp_6 ?_
    refine zv_icmp_ge (tgt := 64) X dX7_effectBy_14 (by decide) (fun c1 => ?_) (fun c1 => ?_)
    · replace e := zit e c1
      refine zv_lload_n X dX7_effectBy_64 rfl rfl ?_
      exact zv_retL X e rfl dX7_effectBy_65
    · replace e := zif e c1
      refine zv_aload_n X dX7_effectBy_17 rfl rfl ?_
      refine zv_iload X dX7_effectBy_18 rfl ?_
      refine zb e (fun v2 gv2 e => ?_)
      refine zv_iald X zk_64 zl_64 zb_64 dX7_effectBy_20 gv2 ?_
      refine zv_istore (i := 6) (lv' := [(6, .int v2), (0, .ref 59), (1, .ref 64), (2, .int a2), (3, .long a3), (5, .int a5)]) X dX7_effectBy_21 (Nat.le_of_ble_eq_true rfl) rfl ?_
      refine zv_iload X dX7_effectBy_23 rfl ?_
      refine zb e (fun q3 gq3 e => ?_)
      refine zv_callS (stk := [.int v2]) (as := [.int v2]) (st := []) X zl_RX7_65 zm_X7_isStarted (k_X7_isStarted (d := d - 1) (by omega) gq3) (by omega) rfl (Nat.le_of_ble_eq_true rfl) (Nat.le_refl _) rfl dX7_effectBy_25 ?_
      show J 28 [(6, .int v2), (0, .ref 59), (1, .ref 64), (2, .int a2), (3, .long a3), (5, .int a5)] [.int q3.1] 117 zRF q3.2
      refine zv_if_eq (tgt := 58) X dX7_effectBy_28 (by decide) (fun c4 => ?_) (fun c4 => ?_)
      · replace e := zit e c4
        exact zv_pick X [1, 2, 3, 4, 5] rfl (k_X7_effectBy_64_L58 q hd X ih _ _ _ _ e)
      · replace e := zif e c4
        refine zv_lload_n X dX7_effectBy_31 rfl rfl ?_
        refine zv_iload_n X dX7_effectBy_32 rfl rfl ?_
        refine zv_i2l X dX7_effectBy_33 ?_
        refine zv_aload_n X dX7_effectBy_34 rfl rfl ?_
        refine zv_getR X zf_RX7_18 znt_a zk_59 zb_59 zr_59_2 dX7_effectBy_35 ?_
        refine zv_iload X dX7_effectBy_38 rfl ?_
        refine zv_bipush (v := (12 : Int32)) X dX7_effectBy_40 zbp_12 ?_
        refine zv_imul X dX7_effectBy_42 ?_
        refine zv_iload X dX7_effectBy_43 rfl ?_
        refine zv_iadd X dX7_effectBy_45 ?_
        refine zb e (fun v5 gv5 e => ?_)
        refine zv_lald X zk_62 zl_62 zb_62 dX7_effectBy_46 gv5 ?_
        refine zv_lmul X dX7_effectBy_47 ?_
        refine zv_aload_n X dX7_effectBy_48 rfl rfl ?_
        refine zv_aload_n X dX7_effectBy_49 rfl rfl ?_
        refine zv_iload X dX7_effectBy_50 rfl ?_
        refine zb e (fun q6 gq6 e => ?_)
        refine zv_callV (stk := [.int v2, .ref 64, .ref 59, .long (a2.toInt64 * v5), .long a3]) (as := [.ref 64, .int v2]) (st := [.long (a2.toInt64 * v5), .long a3]) (k := 59) X zl_RX7_69 zm_X7_neverRise (k_X7_neverRise_64 (d := d - 1) (by omega) gq6) (by omega) zb_59 (by rw [zk_59]; rfl) rfl rfl (Nat.le_of_ble_eq_true rfl) (Nat.le_refl _) rfl dX7_effectBy_52 ?_
        show J 55 [(6, .int v2), (0, .ref 59), (1, .ref 64), (2, .int a2), (3, .long a3), (5, .int a5)] [.long q6.1, .long (a2.toInt64 * v5), .long a3] 117 zRF q6.2
        refine zv_lsub X dX7_effectBy_55 ?_
        refine zv_ladd X dX7_effectBy_56 ?_
        refine zb e (fun v7 gv7 e => ?_)
        refine zv_nmJ X gv7 ?_
        refine zv_lstore_n (i := 3) (lv' := [(3, .long v7), (6, .int v2), (0, .ref 59), (1, .ref 64), (2, .int a2), (5, .int a5)]) X dX7_effectBy_57 rfl (Nat.le_of_ble_eq_true rfl) rfl ?_
        exact zv_pick X [2, 3, 4, 0, 5] rfl (k_X7_effectBy_64_L58 q hd X ih _ _ _ _ e)
set_option maxRecDepth 100000 in
set_option maxHeartbeats 4000000 in
theorem k_X7_effectBy_64 {l : Launch} {D : va_G} {cy : Nat → ClassId} {S0 d : Nat} (hd : 1 ≤ d) {h : zHp} {q : (Int64 × zHp)} (e : s_X7_effectBy_64  h = some q) : zCT l D cy S0 d yX7_effectBy cX7_effectBy 7 (some .long) [.ref 59, .ref 64] 117 zRF h (some (.long q.1)) 117 zRF q.2 := by
  unfold s_X7_effectBy_64 at e
  refine zCT_of RX7 rfl zm_X7_effectBy (Nat.le_refl _) (Nat.le_of_ble_eq_true rfl) (fun J X => ?_)
  show J 0 [(0, .ref 59), (1, .ref 64)] [] 117 zRF h
  refine zv_aload_n X dX7_effectBy_0 rfl rfl ?_
  refine zb e (fun q1 gq1 e => ?_)
  refine zv_callV (stk := [.ref 59]) (as := []) (st := []) (k := 59) X zl_RX7_45 zm_X7_neverSize (k_X7_neverSize (d := d - 1) (by omega) gq1) (by omega) zb_59 (by rw [zk_59]; rfl) rfl rfl (Nat.le_of_ble_eq_true rfl) (Nat.le_refl _) rfl dX7_effectBy_1 ?_
  show J 4 [(0, .ref 59), (1, .ref 64)] [.int q1.1] 117 zRF q1.2
  refine zv_istore_n (i := 2) (lv' := [(2, .int q1.1), (0, .ref 59), (1, .ref 64)]) X dX7_effectBy_4 rfl (Nat.le_of_ble_eq_true rfl) rfl ?_
  refine zv_lconst (v := (0 : Int64)) X dX7_effectBy_5 rfl ?_
  refine zv_lstore_n (i := 3) (lv' := [(3, .long (0 : Int64)), (2, .int q1.1), (0, .ref 59), (1, .ref 64)]) X dX7_effectBy_6 rfl (Nat.le_of_ble_eq_true rfl) rfl ?_
  refine zv_iconst (v := (0 : Int32)) X dX7_effectBy_7 zic_0 ?_
  refine zv_istore (i := 5) (lv' := [(5, .int (0 : Int32)), (3, .long (0 : Int64)), (2, .int q1.1), (0, .ref 59), (1, .ref 64)]) X dX7_effectBy_8 (Nat.le_of_ble_eq_true rfl) rfl ?_
  exact zv_pick X [3, 4, 2, 1, 0] rfl (k_X7_effectBy_64_L10 q hd X _ _ _ _ _ e)

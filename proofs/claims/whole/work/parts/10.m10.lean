-- X3_addDouble
def s_X3_addDouble (a1 : Int32) (a2 : Int32) (h : zHp) : Option zHp :=
  (s_X5_inspectorOf a1 h).bind fun q1 =>
  (s_X5_inspectorOf a2 q1.2).bind fun q2 =>
  (some ((q1.1 * (5 : Int32)) + q1.1)).bind fun v3 =>
  (zrj q2.2 48 25 v3).bind fun v4 =>
  (zuj q2.2 48 25 v3 (v4 + (1 : Int64))).bind fun h5 =>
  (some ((q1.1 * (5 : Int32)) + q2.1)).bind fun v6 =>
  (zrj h5 48 25 v6).bind fun v7 =>
  (zuj h5 48 25 v6 (v7 - (1 : Int64))).bind fun h8 =>
  (zrj h8 49 5 q1.1).bind fun v9 =>
  (zri h8 47 80 a1).bind fun v10 =>
  (zri h8 47 80 a2).bind fun v11 =>
  (zuj h8 49 5 q1.1 (v9 + ((v10 - v11).toInt64))).bind fun h12 =>
  (zri h12 50 5 q1.1).bind fun v13 =>
  (zui h12 50 5 q1.1 (v13 ||| ((1 : Int32) <<< (q2.1 &&& 31)))).bind fun h14 =>
  some h14
set_option maxRecDepth 100000 in
set_option maxHeartbeats 4000000 in
theorem k_X3_addDouble {l : Launch} {D : va_G} {cy : Nat → ClassId} {S0 d : Nat} (hd : 1 ≤ d) {a1 : Int32} {a2 : Int32} {h : zHp} {q : zHp} (e : s_X3_addDouble a1 a2 h = some q) : zCT l D cy S0 d yX3_addDouble cX3_addDouble 5 none [.ref 46, .int a1, .int a2] 117 zRF h none 117 zRF q := by
  unfold s_X3_addDouble at e
  refine zCT_of RX3 rfl zm_X3_addDouble (Nat.le_refl _) (Nat.le_of_ble_eq_true rfl) (fun J X => ?_)
  show J 0 [(0, .ref 46), (1, .int a1), (2, .int a2)] [] 117 zRF h
  refine zv_aload_n X dX3_addDouble_0 rfl rfl ?_
  refine zv_getR X zf_RX3_32 znt_o zk_46 zb_46 zr_46_0 dX3_addDouble_1 ?_
  refine zv_iload_n X dX3_addDouble_4 rfl rfl ?_
  refine zb e (fun q1 gq1 e => ?_)
  refine zv_callV (stk := [.int a1, .ref 24]) (as := [.int a1]) (st := []) (k := 24) X zl_RX3_88 zm_X5_inspectorOf (k_X5_inspectorOf (d := d - 1) (by omega) gq1) (by omega) zb_24 (by rw [zk_24]; rfl) rfl rfl (Nat.le_of_ble_eq_true rfl) (Nat.le_refl _) rfl dX3_addDouble_5 ?_
  show J 8 [(0, .ref 46), (1, .int a1), (2, .int a2)] [.int q1.1] 117 zRF q1.2
  refine zv_istore_n (i := 3) (lv' := [(3, .int q1.1), (0, .ref 46), (1, .int a1), (2, .int a2)]) X dX3_addDouble_8 rfl (Nat.le_of_ble_eq_true rfl) rfl ?_
  refine zv_aload_n X dX3_addDouble_9 rfl rfl ?_
  refine zv_getR X zf_RX3_32 znt_o zk_46 zb_46 zr_46_0 dX3_addDouble_10 ?_
  refine zv_iload_n X dX3_addDouble_13 rfl rfl ?_
  refine zb e (fun q2 gq2 e => ?_)
  refine zv_callV (stk := [.int a2, .ref 24]) (as := [.int a2]) (st := []) (k := 24) X zl_RX3_88 zm_X5_inspectorOf (k_X5_inspectorOf (d := d - 1) (by omega) gq2) (by omega) zb_24 (by rw [zk_24]; rfl) rfl rfl (Nat.le_of_ble_eq_true rfl) (Nat.le_refl _) rfl dX3_addDouble_14 ?_
  show J 17 [(3, .int q1.1), (0, .ref 46), (1, .int a1), (2, .int a2)] [.int q2.1] 117 zRF q2.2
  refine zv_istore (i := 4) (lv' := [(4, .int q2.1), (3, .int q1.1), (0, .ref 46), (1, .int a1), (2, .int a2)]) X dX3_addDouble_17 (Nat.le_of_ble_eq_true rfl) rfl ?_
  refine zv_aload_n X dX3_addDouble_19 rfl rfl ?_
  refine zv_getR X zf_RX3_15 znt_a zk_46 zb_46 zr_46_2 dX3_addDouble_20 ?_
  refine zv_iload_n X dX3_addDouble_23 rfl rfl ?_
  refine zv_iconst (v := (5 : Int32)) X dX3_addDouble_24 zic_5 ?_
  refine zv_imul X dX3_addDouble_25 ?_
  refine zv_iload_n X dX3_addDouble_26 rfl rfl ?_
  refine zv_iadd X dX3_addDouble_27 ?_
  refine zb e (fun v3 gv3 e => ?_)
  refine zv_nmI X gv3 ?_
  refine zv_dup2 X dX3_addDouble_28 ?_
  refine zb e (fun v4 gv4 e => ?_)
  refine zv_lald X zk_48 zl_48 zb_48 dX3_addDouble_29 gv4 ?_
  refine zv_lconst (v := (1 : Int64)) X dX3_addDouble_30 rfl ?_
  refine zv_ladd X dX3_addDouble_31 ?_
  refine zb e (fun h5 gh5 e => ?_)
  refine zv_last X zk_48 zl_48 zb_48 dX3_addDouble_32 gh5 ?_
  refine zv_aload_n X dX3_addDouble_33 rfl rfl ?_
  refine zv_getR X zf_RX3_15 znt_a zk_46 zb_46 zr_46_2 dX3_addDouble_34 ?_
  refine zv_iload_n X dX3_addDouble_37 rfl rfl ?_
  refine zv_iconst (v := (5 : Int32)) X dX3_addDouble_38 zic_5 ?_
  refine zv_imul X dX3_addDouble_39 ?_
  refine zv_iload X dX3_addDouble_40 rfl ?_
  refine zv_iadd X dX3_addDouble_42 ?_
  refine zb e (fun v6 gv6 e => ?_)
  refine zv_nmI X gv6 ?_
  refine zv_dup2 X dX3_addDouble_43 ?_
  refine zb e (fun v7 gv7 e => ?_)
  refine zv_lald X zk_48 zl_48 zb_48 dX3_addDouble_44 gv7 ?_
  refine zv_lconst (v := (1 : Int64)) X dX3_addDouble_45 rfl ?_
  refine zv_lsub X dX3_addDouble_46 ?_
  refine zb e (fun h8 gh8 e => ?_)
  refine zv_last X zk_48 zl_48 zb_48 dX3_addDouble_47 gh8 ?_
  refine zv_aload_n X dX3_addDouble_48 rfl rfl ?_
  refine zv_getR X zf_RX3_19 znt_a zk_46 zb_46 zr_46_3 dX3_addDouble_49 ?_
  refine zv_iload_n X dX3_addDouble_52 rfl rfl ?_
  refine zv_dup2 X dX3_addDouble_53 ?_
  refine zb e (fun v9 gv9 e => ?_)
  refine zv_lald X zk_49 zl_49 zb_49 dX3_addDouble_54 gv9 ?_
  refine zv_aload_n X dX3_addDouble_55 rfl rfl ?_
  refine zv_getR X zf_RX3_9 znt_a zk_46 zb_46 zr_46_1 dX3_addDouble_56 ?_
  refine zv_iload_n X dX3_addDouble_59 rfl rfl ?_
  refine zb e (fun v10 gv10 e => ?_)
  refine zv_iald X zk_47 zl_47 zb_47 dX3_addDouble_60 gv10 ?_
  refine zv_aload_n X dX3_addDouble_61 rfl rfl ?_
  refine zv_getR X zf_RX3_9 znt_a zk_46 zb_46 zr_46_1 dX3_addDouble_62 ?_
  refine zv_iload_n X dX3_addDouble_65 rfl rfl ?_
  refine zb e (fun v11 gv11 e => ?_)
  refine zv_iald X zk_47 zl_47 zb_47 dX3_addDouble_66 gv11 ?_
  refine zv_isub X dX3_addDouble_67 ?_
  refine zv_i2l X dX3_addDouble_68 ?_
  refine zv_ladd X dX3_addDouble_69 ?_
  refine zb e (fun h12 gh12 e => ?_)
  refine zv_last X zk_49 zl_49 zb_49 dX3_addDouble_70 gh12 ?_
  refine zv_aload_n X dX3_addDouble_71 rfl rfl ?_
  refine zv_getR X zf_RX3_22 znt_a zk_46 zb_46 zr_46_4 dX3_addDouble_72 ?_
  refine zv_iload_n X dX3_addDouble_75 rfl rfl ?_
  refine zv_dup2 X dX3_addDouble_76 ?_
  refine zb e (fun v13 gv13 e => ?_)
  refine zv_iald X zk_50 zl_50 zb_50 dX3_addDouble_77 gv13 ?_
  refine zv_iconst (v := (1 : Int32)) X dX3_addDouble_78 zic_1 ?_
  refine zv_iload X dX3_addDouble_79 rfl ?_
  refine zv_ishl X dX3_addDouble_81 ?_
  refine zv_ior X dX3_addDouble_82 ?_
  refine zb e (fun h14 gh14 e => ?_)
  refine zv_iast X zk_50 zl_50 zb_50 dX3_addDouble_83 gh14 ?_
  exact zv_retV X e rfl dX3_addDouble_84
-- X3_spreadJoins
def s_X3_spreadJoins_L42 (k2 : Int32 → zHp → Option zHp) (k9 : Int32 → Int32 → zHp → Option zHp) (a1 : Int32) (a2 : Int32) (h : zHp) : Option zHp :=
  k9 a1 (a2 + (1 : Int32)) h
def s_X3_spreadJoins_L9 (k2 : Int32 → zHp → Option zHp) : Nat → Int32 → Int32 → zHp → Option zHp
  | 0, _, _, _ => none
  | f + 1, a1, a2, h =>
  if (5 : Int32) ≤ a2 then
    k2 (a1 + (1 : Int32)) h
  else
    (zri h 50 5 a2).bind fun v2 =>
    if ((v2 >>> (a1 &&& 31)) &&& (1 : Int32)) = 0 then
      s_X3_spreadJoins_L42 k2 (s_X3_spreadJoins_L9 k2 f) a1 a2 h
    else
      (zri h 50 5 a2).bind fun v4 =>
      (zri h 50 5 a1).bind fun v5 =>
      (zui h 50 5 a2 (v4 ||| v5)).bind fun h6 =>
      s_X3_spreadJoins_L42 k2 (s_X3_spreadJoins_L9 k2 f) a1 a2 h6
def s_X3_spreadJoins_L2 : Nat → Int32 → zHp → Option zHp
  | 0, _, _ => none
  | f + 1, a1, h =>
  if (5 : Int32) ≤ a1 then
    some h
  else
    s_X3_spreadJoins_L9 (s_X3_spreadJoins_L2 f) zFU a1 (0 : Int32) h
def s_X3_spreadJoins  (h : zHp) : Option zHp :=
  s_X3_spreadJoins_L2 zFU (0 : Int32) h
set_option maxRecDepth 100000 in
set_option maxHeartbeats 4000000 in
theorem k_X3_spreadJoins_L42 {l : Launch} {D : va_G} {cy : Nat → ClassId} {S0 d : Nat} {J : zJ} (q : zHp) (hd : 0 ≤ d) (X : zOK l D cy S0 d RX3 cX3_spreadJoins 3 (yX3_spreadJoins.name == "<init>") 117 117 none (zRT 117 zRF none q) J) {k2 : Int32 → zHp → Option zHp} (hk2 : ∀ (a1 : Int32) (h : zHp), k2 a1 h = some q → J 2 [(0, .ref 46), (1, .int a1)] [] 117 zRF h) {k9 : Int32 → Int32 → zHp → Option zHp} (hk9 : ∀ (a1 : Int32) (a2 : Int32) (h : zHp), k9 a1 a2 h = some q → J 9 [(0, .ref 46), (1, .int a1), (2, .int a2)] [] 117 zRF h) : ∀ (a1 : Int32) (a2 : Int32) (h : zHp), s_X3_spreadJoins_L42 k2 k9 a1 a2 h = some q → J 42 [(0, .ref 46), (1, .int a1), (2, .int a2)] [] 117 zRF h := by
  intro a1 a2 h e
  unfold s_X3_spreadJoins_L42 at e
  refine zv_iinc (k := 2) (v := a2 + (1 : Int32)) (lv' := [(2, .int (a2 + (1 : Int32))), (0, .ref 46), (1, .int a1)]) X dX3_spreadJoins_42 rfl rfl (Nat.le_of_ble_eq_true rfl) rfl ?_
  refine zv_goto (tgt := 9) X dX3_spreadJoins_45 (by decide) ?_
  exact zv_pick X [1, 2, 0] rfl (hk9 _ _ _ e)
set_option maxRecDepth 100000 in
set_option maxHeartbeats 4000000 in
theorem k_X3_spreadJoins_L9 {l : Launch} {D : va_G} {cy : Nat → ClassId} {S0 d : Nat} {J : zJ} (q : zHp) (hd : 0 ≤ d) (X : zOK l D cy S0 d RX3 cX3_spreadJoins 3 (yX3_spreadJoins.name == "<init>") 117 117 none (zRT 117 zRF none q) J) {k2 : Int32 → zHp → Option zHp} (hk2 : ∀ (a1 : Int32) (h : zHp), k2 a1 h = some q → J 2 [(0, .ref 46), (1, .int a1)] [] 117 zRF h) : ∀ (f : Nat) (a1 : Int32) (a2 : Int32) (h : zHp), s_X3_spreadJoins_L9 k2 f a1 a2 h = some q → J 9 [(0, .ref 46), (1, .int a1), (2, .int a2)] [] 117 zRF h := by
  intro f
  induction f with
  | zero => intro _ _ h e; exact absurd e (fun z => by cases z)
  | succ f ih =>
    intro a1 a2 h e
    rw [s_X3_spreadJoins_L9] at e
    refine zv_iload_n X dX3_spreadJoins_9 rfl rfl ?_
    refine zv_iconst (v := (5 : Int32)) X dX3_spreadJoins_10 zic_5 ?_
    refine zv_icmp_ge (tgt := 48) X dX3_spreadJoins_11 (by decide) (fun c1 => ?_) (fun c1 => ?_)
    · replace e := zit e c1
      refine zv_iinc (k := 1) (v := a1 + (1 : Int32)) (lv' := [(1, .int (a1 + (1 : Int32))), (0, .ref 46), (2, .int a2)]) X dX3_spreadJoins_48 rfl rfl (Nat.le_of_ble_eq_true rfl) rfl ?_
      refine zv_goto (tgt := 2) X dX3_spreadJoins_51 (by decide) ?_
      exact zv_pick X [1, 0] rfl (hk2 _ _ e)
    · replace e := zif e c1
      refine zv_aload_n X dX3_spreadJoins_14 rfl rfl ?_
      refine zv_getR X zf_RX3_22 znt_a zk_46 zb_46 zr_46_4 dX3_spreadJoins_15 ?_
      refine zv_iload_n X dX3_spreadJoins_18 rfl rfl ?_
      refine zb e (fun v2 gv2 e => ?_)
      refine zv_iald X zk_50 zl_50 zb_50 dX3_spreadJoins_19 gv2 ?_
      refine zv_iload_n X dX3_spreadJoins_20 rfl rfl ?_
      refine zv_ishr X dX3_spreadJoins_21 ?_
      refine zv_iconst (v := (1 : Int32)) X dX3_spreadJoins_22 zic_1 ?_
      refine zv_iand X dX3_spreadJoins_23 ?_
      refine zv_if_eq (tgt := 42) X dX3_spreadJoins_24 (by decide) (fun c3 => ?_) (fun c3 => ?_)
      · replace e := zit e c3
        exact k_X3_spreadJoins_L42 q hd X hk2 ih _ _ _ e
      · replace e := zif e c3
        refine zv_aload_n X dX3_spreadJoins_27 rfl rfl ?_
        refine zv_getR X zf_RX3_22 znt_a zk_46 zb_46 zr_46_4 dX3_spreadJoins_28 ?_
        refine zv_iload_n X dX3_spreadJoins_31 rfl rfl ?_
        refine zv_dup2 X dX3_spreadJoins_32 ?_
        refine zb e (fun v4 gv4 e => ?_)
        refine zv_iald X zk_50 zl_50 zb_50 dX3_spreadJoins_33 gv4 ?_
        refine zv_aload_n X dX3_spreadJoins_34 rfl rfl ?_
        refine zv_getR X zf_RX3_22 znt_a zk_46 zb_46 zr_46_4 dX3_spreadJoins_35 ?_
        refine zv_iload_n X dX3_spreadJoins_38 rfl rfl ?_
        refine zb e (fun v5 gv5 e => ?_)
        refine zv_iald X zk_50 zl_50 zb_50 dX3_spreadJoins_39 gv5 ?_
        refine zv_ior X dX3_spreadJoins_40 ?_
        refine zb e (fun h6 gh6 e => ?_)
        refine zv_iast X zk_50 zl_50 zb_50 dX3_spreadJoins_41 gh6 ?_
        exact k_X3_spreadJoins_L42 q hd X hk2 ih _ _ _ e
set_option maxRecDepth 100000 in
set_option maxHeartbeats 4000000 in
theorem k_X3_spreadJoins_L2 {l : Launch} {D : va_G} {cy : Nat → ClassId} {S0 d : Nat} {J : zJ} (q : zHp) (hd : 0 ≤ d) (X : zOK l D cy S0 d RX3 cX3_spreadJoins 3 (yX3_spreadJoins.name == "<init>") 117 117 none (zRT 117 zRF none q) J) : ∀ (f : Nat) (a1 : Int32) (h : zHp), s_X3_spreadJoins_L2 f a1 h = some q → J 2 [(0, .ref 46), (1, .int a1)] [] 117 zRF h := by
  intro f
  induction f with
  | zero => intro _ h e; exact absurd e (fun z => by cases z)
  | succ f ih =>
    intro a1 h e
    rw [s_X3_spreadJoins_L2] at e
    refine zv_iload_n X dX3_spreadJoins_2 rfl rfl ?_
    refine zv_iconst (v := (5 : Int32)) X dX3_spreadJoins_3 zic_5 ?_
    refine zv_icmp_ge (tgt := 54) X dX3_spreadJoins_4 (by decide) (fun c1 => ?_) (fun c1 => ?_)
    · replace e := zit e c1
      exact zv_retV X e rfl dX3_spreadJoins_54
    · replace e := zif e c1
      refine zv_iconst (v := (0 : Int32)) X dX3_spreadJoins_7 zic_0 ?_
      refine zv_istore_n (i := 2) (lv' := [(2, .int (0 : Int32)), (0, .ref 46), (1, .int a1)]) X dX3_spreadJoins_8 rfl (Nat.le_of_ble_eq_true rfl) rfl ?_
      exact zv_pick X [1, 2, 0] rfl (k_X3_spreadJoins_L9 q hd X ih _ _ _ _ e)
set_option maxRecDepth 100000 in
set_option maxHeartbeats 4000000 in
theorem k_X3_spreadJoins {l : Launch} {D : va_G} {cy : Nat → ClassId} {S0 d : Nat} (hd : 0 ≤ d) {h : zHp} {q : zHp} (e : s_X3_spreadJoins  h = some q) : zCT l D cy S0 d yX3_spreadJoins cX3_spreadJoins 3 none [.ref 46] 117 zRF h none 117 zRF q := by
  unfold s_X3_spreadJoins at e
  refine zCT_of RX3 rfl zm_X3_spreadJoins (Nat.le_refl _) (Nat.le_of_ble_eq_true rfl) (fun J X => ?_)
  show J 0 [(0, .ref 46)] [] 117 zRF h
  refine zv_iconst (v := (0 : Int32)) X dX3_spreadJoins_0 zic_0 ?_
  refine zv_istore_n (i := 1) (lv' := [(1, .int (0 : Int32)), (0, .ref 46)]) X dX3_spreadJoins_1 rfl (Nat.le_of_ble_eq_true rfl) rfl ?_
  exact zv_pick X [1, 0] rfl (k_X3_spreadJoins_L2 q hd X _ _ _ e)
-- X3_isLowest
def s_X3_isLowest_L20 (b0 : Int32) (h : zHp) : Option (Int32 × zHp) :=
  (zbo b0).bind fun u1 =>
  some (b0, h)
def s_X3_isLowest (a1 : Int32) (h : zHp) : Option (Int32 × zHp) :=
  (zri h 50 5 a1).bind fun v1 =>
  if (v1 &&& (((1 : Int32) <<< (a1 &&& 31)) - (1 : Int32))) = 0 then
    s_X3_isLowest_L20 (1 : Int32) h
  else
    s_X3_isLowest_L20 (0 : Int32) h
set_option maxRecDepth 100000 in
set_option maxHeartbeats 4000000 in
theorem k_X3_isLowest_L20 {l : Launch} {D : va_G} {cy : Nat → ClassId} {S0 d : Nat} {J : zJ} (q : (Int32 × zHp)) (hd : 0 ≤ d) (X : zOK l D cy S0 d RX3 cX3_isLowest 2 (yX3_isLowest.name == "<init>") 117 117 (some .boolean) (zRT 117 zRF (some (.int q.1)) q.2) J) : ∀ (b0 : Int32) (h : zHp), s_X3_isLowest_L20 b0 h = some q → J 20 [] [.int b0] 117 zRF h := by
  intro b0 h e
  unfold s_X3_isLowest_L20 at e
  refine zb e (fun u gu e => ?_)
  exact zv_retZ X e rfl (zbo_ok gu) dX3_isLowest_20
set_option maxRecDepth 100000 in
set_option maxHeartbeats 4000000 in
theorem k_X3_isLowest {l : Launch} {D : va_G} {cy : Nat → ClassId} {S0 d : Nat} (hd : 0 ≤ d) {a1 : Int32} {h : zHp} {q : (Int32 × zHp)} (e : s_X3_isLowest a1 h = some q) : zCT l D cy S0 d yX3_isLowest cX3_isLowest 2 (some .boolean) [.ref 46, .int a1] 117 zRF h (some (.int q.1)) 117 zRF q.2 := by
  unfold s_X3_isLowest at e
  refine zCT_of RX3 rfl zm_X3_isLowest (Nat.le_refl _) (Nat.le_of_ble_eq_true rfl) (fun J X => ?_)
  show J 0 [(0, .ref 46), (1, .int a1)] [] 117 zRF h
  refine zv_aload_n X dX3_isLowest_0 rfl rfl ?_
  refine zv_getR X zf_RX3_22 znt_a zk_46 zb_46 zr_46_4 dX3_isLowest_1 ?_
  refine zv_iload_n X dX3_isLowest_4 rfl rfl ?_
  refine zb e (fun v1 gv1 e => ?_)
  refine zv_iald X zk_50 zl_50 zb_50 dX3_isLowest_5 gv1 ?_
  refine zv_iconst (v := (1 : Int32)) X dX3_isLowest_6 zic_1 ?_
  refine zv_iload_n X dX3_isLowest_7 rfl rfl ?_
  refine zv_ishl X dX3_isLowest_8 ?_
  refine zv_iconst (v := (1 : Int32)) X dX3_isLowest_9 zic_1 ?_
  refine zv_isub X dX3_isLowest_10 ?_
  refine zv_iand X dX3_isLowest_11 ?_
  refine zv_if_ne (tgt := 19) X dX3_isLowest_12 (by decide) (fun c2 => ?_) (fun c2 => ?_)
  · replace e := zif e c2
    refine zv_iconst (v := (0 : Int32)) X dX3_isLowest_19 zic_0 ?_
    exact zv_pick X [] rfl (k_X3_isLowest_L20 q hd X _ _ e)
  · replace e := zit e c2
    refine zv_iconst (v := (1 : Int32)) X dX3_isLowest_15 zic_1 ?_
    refine zv_goto (tgt := 20) X dX3_isLowest_16 (by decide) ?_
    exact zv_pick X [] rfl (k_X3_isLowest_L20 q hd X _ _ e)
-- X3_setToZero
def s_X3_setToZero_L2 : Nat → Int32 → Int32 → zHp → Option zHp
  | 0, _, _, _ => none
  | f + 1, a1, a2, h =>
  if (5 : Int32) ≤ a2 then
    (zuj h 48 25 ((a1 * (5 : Int32)) + a1) (1 : Int64)).bind fun h2 =>
    (zuj h2 49 5 a1 (0 : Int64)).bind fun h3 =>
    some h3
  else
    (zuj h 48 25 ((a1 * (5 : Int32)) + a2) (0 : Int64)).bind fun h4 =>
    s_X3_setToZero_L2 f a1 (a2 + (1 : Int32)) h4
def s_X3_setToZero (a1 : Int32) (h : zHp) : Option zHp :=
  s_X3_setToZero_L2 zFU a1 (0 : Int32) h
set_option maxRecDepth 100000 in
set_option maxHeartbeats 4000000 in
theorem k_X3_setToZero_L2 {l : Launch} {D : va_G} {cy : Nat → ClassId} {S0 d : Nat} {J : zJ} (q : zHp) (hd : 0 ≤ d) (X : zOK l D cy S0 d RX3 cX3_setToZero 3 (yX3_setToZero.name == "<init>") 117 117 none (zRT 117 zRF none q) J) : ∀ (f : Nat) (a1 : Int32) (a2 : Int32) (h : zHp), s_X3_setToZero_L2 f a1 a2 h = some q → J 2 [(0, .ref 46), (1, .int a1), (2, .int a2)] [] 117 zRF h := by
  intro f
  induction f with
  | zero => intro _ _ h e; exact absurd e (fun z => by cases z)
  | succ f ih =>
    intro a1 a2 h e
    rw [s_X3_setToZero_L2] at e
    refine zv_iload_n X dX3_setToZero_2 rfl rfl ?_
    refine zv_iconst (v := (5 : Int32)) X dX3_setToZero_3 zic_5 ?_
    refine zv_icmp_ge (tgt := 24) X dX3_setToZero_4 (by decide) (fun c1 => ?_) (fun c1 => ?_)
    · replace e := zit e c1
      refine zv_aload_n X dX3_setToZero_24 rfl rfl ?_
      refine zv_getR X zf_RX3_15 znt_a zk_46 zb_46 zr_46_2 dX3_setToZero_25 ?_
      refine zv_iload_n X dX3_setToZero_28 rfl rfl ?_
      refine zv_iconst (v := (5 : Int32)) X dX3_setToZero_29 zic_5 ?_
      refine zv_imul X dX3_setToZero_30 ?_
      refine zv_iload_n X dX3_setToZero_31 rfl rfl ?_
      refine zv_iadd X dX3_setToZero_32 ?_
      refine zv_lconst (v := (1 : Int64)) X dX3_setToZero_33 rfl ?_
      refine zb e (fun h2 gh2 e => ?_)
      refine zv_last X zk_48 zl_48 zb_48 dX3_setToZero_34 gh2 ?_
      refine zv_aload_n X dX3_setToZero_35 rfl rfl ?_
      refine zv_getR X zf_RX3_19 znt_a zk_46 zb_46 zr_46_3 dX3_setToZero_36 ?_
      refine zv_iload_n X dX3_setToZero_39 rfl rfl ?_
      refine zv_lconst (v := (0 : Int64)) X dX3_setToZero_40 rfl ?_
      refine zb e (fun h3 gh3 e => ?_)
      refine zv_last X zk_49 zl_49 zb_49 dX3_setToZero_41 gh3 ?_
      exact zv_retV X e rfl dX3_setToZero_42
    · replace e := zif e c1
      refine zv_aload_n X dX3_setToZero_7 rfl rfl ?_
      refine zv_getR X zf_RX3_15 znt_a zk_46 zb_46 zr_46_2 dX3_setToZero_8 ?_
      refine zv_iload_n X dX3_setToZero_11 rfl rfl ?_
      refine zv_iconst (v := (5 : Int32)) X dX3_setToZero_12 zic_5 ?_
      refine zv_imul X dX3_setToZero_13 ?_
      refine zv_iload_n X dX3_setToZero_14 rfl rfl ?_
      refine zv_iadd X dX3_setToZero_15 ?_
      refine zv_lconst (v := (0 : Int64)) X dX3_setToZero_16 rfl ?_
      refine zb e (fun h4 gh4 e => ?_)
      refine zv_last X zk_48 zl_48 zb_48 dX3_setToZero_17 gh4 ?_
      refine zv_iinc (k := 2) (v := a2 + (1 : Int32)) (lv' := [(2, .int (a2 + (1 : Int32))), (0, .ref 46), (1, .int a1)]) X dX3_setToZero_18 rfl rfl (Nat.le_of_ble_eq_true rfl) rfl ?_
      refine zv_goto (tgt := 2) X dX3_setToZero_21 (by decide) ?_
      exact zv_pick X [1, 2, 0] rfl (ih _ _ _ e)
set_option maxRecDepth 100000 in
set_option maxHeartbeats 4000000 in
theorem k_X3_setToZero {l : Launch} {D : va_G} {cy : Nat → ClassId} {S0 d : Nat} (hd : 0 ≤ d) {a1 : Int32} {h : zHp} {q : zHp} (e : s_X3_setToZero a1 h = some q) : zCT l D cy S0 d yX3_setToZero cX3_setToZero 3 none [.ref 46, .int a1] 117 zRF h none 117 zRF q := by
  unfold s_X3_setToZero at e
  refine zCT_of RX3 rfl zm_X3_setToZero (Nat.le_refl _) (Nat.le_of_ble_eq_true rfl) (fun J X => ?_)
  show J 0 [(0, .ref 46), (1, .int a1)] [] 117 zRF h
  refine zv_iconst (v := (0 : Int32)) X dX3_setToZero_0 zic_0 ?_
  refine zv_istore_n (i := 2) (lv' := [(2, .int (0 : Int32)), (0, .ref 46), (1, .int a1)]) X dX3_setToZero_1 rfl (Nat.le_of_ble_eq_true rfl) rfl ?_
  exact zv_pick X [1, 2, 0] rfl (k_X3_setToZero_L2 q hd X _ _ _ _ e)
-- X3_learn
def s_X3_learn_L106 (k59 : Int32 → zHp → Option zHp) (k74 : Int32 → Int32 → zHp → Option zHp) (a1 : Int32) (a2 : Int32) (h : zHp) : Option zHp :=
  k74 a1 (a2 + (1 : Int32)) h
def s_X3_learn_L74 (k59 : Int32 → zHp → Option zHp) : Nat → Int32 → Int32 → zHp → Option zHp
  | 0, _, _, _ => none
  | f + 1, a1, a2, h =>
  (s_X5_size h).bind fun q1 =>
  if q1.1 ≤ a2 then
    k59 (a1 + (1 : Int32)) q1.2
  else
    (s_X3_isDouble a1 a2 q1.2).bind fun q3 =>
    if q3.1 = 0 then
      s_X3_learn_L106 k59 (s_X3_learn_L74 k59 f) a1 a2 q3.2
    else
      (s_X3_addDouble a1 a2 q3.2).bind fun q5 =>
      (s_X3_addDouble a2 a1 q5).bind fun q6 =>
      s_X3_learn_L106 k59 (s_X3_learn_L74 k59 f) a1 a2 q6
def s_X3_learn_L142 (k124 : Int32 → zHp → Option zHp) (a1 : Int32) (h : zHp) : Option zHp :=
  k124 (a1 + (1 : Int32)) h
def s_X3_learn_L124 : Nat → Int32 → zHp → Option zHp
  | 0, _, _ => none
  | f + 1, a1, h =>
  if (5 : Int32) ≤ a1 then
    some h
  else
    (s_X3_isLowest a1 h).bind fun q2 =>
    if q2.1 = 0 then
      s_X3_learn_L142 (s_X3_learn_L124 f) a1 q2.2
    else
      (s_X3_setToZero a1 q2.2).bind fun q4 =>
      s_X3_learn_L142 (s_X3_learn_L124 f) a1 q4
def s_X3_learn_L59 : Nat → Int32 → zHp → Option zHp
  | 0, _, _ => none
  | f + 1, a1, h =>
  (s_X5_size h).bind fun q1 =>
  if q1.1 ≤ a1 then
    (s_X3_spreadJoins q1.2).bind fun q3 =>
    s_X3_learn_L124 zFU (0 : Int32) q3
  else
    (some (a1 + (1 : Int32))).bind fun v4 =>
    s_X3_learn_L74 (s_X3_learn_L59 f) zFU a1 v4 q1.2
def s_X3_learn_L26 : Nat → Int32 → zHp → Option zHp
  | 0, _, _ => none
  | f + 1, a1, h =>
  (s_X5_size h).bind fun q1 =>
  if q1.1 ≤ a1 then
    s_X3_learn_L59 zFU (0 : Int32) q1.2
  else
    (s_X5_ownScore a1 q1.2).bind fun q3 =>
    (zui q3.2 47 80 a1 q3.1).bind fun h4 =>
    s_X3_learn_L26 f (a1 + (1 : Int32)) h4
def s_X3_learn  (h : zHp) : Option zHp :=
  (s_J7_fill_d0a16_48 (0 : Int64) h).bind fun q1 =>
  (s_J7_fill_d0a16_49 (0 : Int64) q1).bind fun q2 =>
  (s_J7_fill_53178_50 (0 : Int32) q2).bind fun q3 =>
  s_X3_learn_L26 zFU (0 : Int32) q3
set_option maxRecDepth 100000 in
set_option maxHeartbeats 4000000 in
theorem k_X3_learn_L106 {l : Launch} {D : va_G} {cy : Nat → ClassId} {S0 d : Nat} {J : zJ} (q : zHp) (hd : 3 ≤ d) (X : zOK l D cy S0 d RX3 cX3_learn 3 (yX3_learn.name == "<init>") 117 117 none (zRT 117 zRF none q) J) {k59 : Int32 → zHp → Option zHp} (hk59 : ∀ (a1 : Int32) (h : zHp), k59 a1 h = some q → J 59 [(0, .ref 46), (1, .int a1)] [] 117 zRF h) {k74 : Int32 → Int32 → zHp → Option zHp} (hk74 : ∀ (a1 : Int32) (a2 : Int32) (h : zHp), k74 a1 a2 h = some q → J 74 [(0, .ref 46), (1, .int a1), (2, .int a2)] [] 117 zRF h) : ∀ (a1 : Int32) (a2 : Int32) (h : zHp), s_X3_learn_L106 k59 k74 a1 a2 h = some q → J 106 [(0, .ref 46), (1, .int a1), (2, .int a2)] [] 117 zRF h := by
  intro a1 a2 h e
  unfold s_X3_learn_L106 at e
  refine zv_iinc (k := 2) (v := a2 + (1 : Int32)) (lv' := [(2, .int (a2 + (1 : Int32))), (0, .ref 46), (1, .int a1)]) X dX3_learn_106 rfl rfl (Nat.le_of_ble_eq_true rfl) rfl ?_
  refine zv_goto (tgt := 74) X dX3_learn_109 (by decide) ?_
  exact zv_pick X [1, 2, 0] rfl (hk74 _ _ _ e)
set_option maxRecDepth 100000 in
set_option maxHeartbeats 4000000 in
theorem k_X3_learn_L74 {l : Launch} {D : va_G} {cy : Nat → ClassId} {S0 d : Nat} {J : zJ} (q : zHp) (hd : 3 ≤ d) (X : zOK l D cy S0 d RX3 cX3_learn 3 (yX3_learn.name == "<init>") 117 117 none (zRT 117 zRF none q) J) {k59 : Int32 → zHp → Option zHp} (hk59 : ∀ (a1 : Int32) (h : zHp), k59 a1 h = some q → J 59 [(0, .ref 46), (1, .int a1)] [] 117 zRF h) : ∀ (f : Nat) (a1 : Int32) (a2 : Int32) (h : zHp), s_X3_learn_L74 k59 f a1 a2 h = some q → J 74 [(0, .ref 46), (1, .int a1), (2, .int a2)] [] 117 zRF h := by
  intro f
  induction f with
  | zero => intro _ _ h e; exact absurd e (fun z => by cases z)
  | succ f ih =>
    intro a1 a2 h e
    rw [s_X3_learn_L74] at e
    refine zv_iload_n X dX3_learn_74 rfl rfl ?_
    refine zv_aload_n X dX3_learn_75 rfl rfl ?_
    refine zv_getR X zf_RX3_32 znt_o zk_46 zb_46 zr_46_0 dX3_learn_76 ?_
    refine zb e (fun q1 gq1 e => ?_)
    refine zv_callV (stk := [.ref 24, .int a2]) (as := []) (st := [.int a2]) (k := 24) X zl_RX3_36 zm_X5_size (k_X5_size (d := d - 1) (by omega) gq1) (by omega) zb_24 (by rw [zk_24]; rfl) rfl rfl (Nat.le_of_ble_eq_true rfl) (Nat.le_refl _) rfl dX3_learn_79 ?_
    show J 82 [(0, .ref 46), (1, .int a1), (2, .int a2)] [.int q1.1, .int a2] 117 zRF q1.2
    refine zv_icmp_ge (tgt := 112) X dX3_learn_82 (by decide) (fun c2 => ?_) (fun c2 => ?_)
    · replace e := zit e c2
      refine zv_iinc (k := 1) (v := a1 + (1 : Int32)) (lv' := [(1, .int (a1 + (1 : Int32))), (0, .ref 46), (2, .int a2)]) X dX3_learn_112 rfl rfl (Nat.le_of_ble_eq_true rfl) rfl ?_
      refine zv_goto (tgt := 59) X dX3_learn_115 (by decide) ?_
      exact zv_pick X [1, 0] rfl (hk59 _ _ e)
    · replace e := zif e c2
      refine zv_aload_n X dX3_learn_85 rfl rfl ?_
      refine zv_iload_n X dX3_learn_86 rfl rfl ?_
      refine zv_iload_n X dX3_learn_87 rfl rfl ?_
      refine zb e (fun q3 gq3 e => ?_)
      refine zv_callV (stk := [.int a2, .int a1, .ref 46]) (as := [.int a1, .int a2]) (st := []) (k := 46) X zl_RX3_42 zm_X3_isDouble (k_X3_isDouble (d := d - 1) (by omega) gq3) (by omega) zb_46 (by rw [zk_46]; rfl) rfl rfl (Nat.le_of_ble_eq_true rfl) (Nat.le_refl _) rfl dX3_learn_88 ?_
      show J 91 [(0, .ref 46), (1, .int a1), (2, .int a2)] [.int q3.1] 117 zRF q3.2
      refine zv_if_eq (tgt := 106) X dX3_learn_91 (by decide) (fun c4 => ?_) (fun c4 => ?_)
      · replace e := zit e c4
        exact k_X3_learn_L106 q hd X hk59 ih _ _ _ e
      · replace e := zif e c4
        refine zv_aload_n X dX3_learn_94 rfl rfl ?_
        refine zv_iload_n X dX3_learn_95 rfl rfl ?_
        refine zv_iload_n X dX3_learn_96 rfl rfl ?_
        refine zb e (fun q5 gq5 e => ?_)
        refine zv_callV (stk := [.int a2, .int a1, .ref 46]) (as := [.int a1, .int a2]) (st := []) (k := 46) X zl_RX3_59 zm_X3_addDouble (k_X3_addDouble (d := d - 1) (by omega) gq5) (by omega) zb_46 (by rw [zk_46]; rfl) rfl rfl (Nat.le_of_ble_eq_true rfl) (Nat.le_refl _) rfl dX3_learn_97 ?_
        show J 100 [(0, .ref 46), (1, .int a1), (2, .int a2)] [] 117 zRF q5
        refine zv_aload_n X dX3_learn_100 rfl rfl ?_
        refine zv_iload_n X dX3_learn_101 rfl rfl ?_
        refine zv_iload_n X dX3_learn_102 rfl rfl ?_
        refine zb e (fun q6 gq6 e => ?_)
        refine zv_callV (stk := [.int a1, .int a2, .ref 46]) (as := [.int a2, .int a1]) (st := []) (k := 46) X zl_RX3_59 zm_X3_addDouble (k_X3_addDouble (d := d - 1) (by omega) gq6) (by omega) zb_46 (by rw [zk_46]; rfl) rfl rfl (Nat.le_of_ble_eq_true rfl) (Nat.le_refl _) rfl dX3_learn_103 ?_
        show J 106 [(0, .ref 46), (1, .int a1), (2, .int a2)] [] 117 zRF q6
        exact k_X3_learn_L106 q hd X hk59 ih _ _ _ e
set_option maxRecDepth 100000 in
set_option maxHeartbeats 4000000 in
theorem k_X3_learn_L142 {l : Launch} {D : va_G} {cy : Nat → ClassId} {S0 d : Nat} {J : zJ} (q : zHp) (hd : 3 ≤ d) (X : zOK l D cy S0 d RX3 cX3_learn 3 (yX3_learn.name == "<init>") 117 117 none (zRT 117 zRF none q) J) {k124 : Int32 → zHp → Option zHp} (hk124 : ∀ (a1 : Int32) (h : zHp), k124 a1 h = some q → J 124 [(0, .ref 46), (1, .int a1)] [] 117 zRF h) : ∀ (a1 : Int32) (h : zHp), s_X3_learn_L142 k124 a1 h = some q → J 142 [(0, .ref 46), (1, .int a1)] [] 117 zRF h := by
  intro a1 h e
  unfold s_X3_learn_L142 at e
  refine zv_iinc (k := 1) (v := a1 + (1 : Int32)) (lv' := [(1, .int (a1 + (1 : Int32))), (0, .ref 46)]) X dX3_learn_142 rfl rfl (Nat.le_of_ble_eq_true rfl) rfl ?_
  refine zv_goto (tgt := 124) X dX3_learn_145 (by decide) ?_
  exact zv_pick X [1, 0] rfl (hk124 _ _ e)
set_option maxRecDepth 100000 in
set_option maxHeartbeats 4000000 in
theorem k_X3_learn_L124 {l : Launch} {D : va_G} {cy : Nat → ClassId} {S0 d : Nat} {J : zJ} (q : zHp) (hd : 3 ≤ d) (X : zOK l D cy S0 d RX3 cX3_learn 3 (yX3_learn.name == "<init>") 117 117 none (zRT 117 zRF none q) J) : ∀ (f : Nat) (a1 : Int32) (h : zHp), s_X3_learn_L124 f a1 h = some q → J 124 [(0, .ref 46), (1, .int a1)] [] 117 zRF h := by
  intro f
  induction f with
  | zero => intro _ h e; exact absurd e (fun z => by cases z)
  | succ f ih =>
    intro a1 h e
    rw [s_X3_learn_L124] at e
    refine zv_iload_n X dX3_learn_124 rfl rfl ?_
    refine zv_iconst (v := (5 : Int32)) X dX3_learn_125 zic_5 ?_
    refine zv_icmp_ge (tgt := 148) X dX3_learn_126 (by decide) (fun c1 => ?_) (fun c1 => ?_)
    · replace e := zit e c1
      exact zv_retV X e rfl dX3_learn_148
    · replace e := zif e c1
      refine zv_aload_n X dX3_learn_129 rfl rfl ?_
      refine zv_iload_n X dX3_learn_130 rfl rfl ?_
      refine zb e (fun q2 gq2 e => ?_)
      refine zv_callV (stk := [.int a1, .ref 46]) (as := [.int a1]) (st := []) (k := 46) X zl_RX3_66 zm_X3_isLowest (k_X3_isLowest (d := d - 1) (by omega) gq2) (by omega) zb_46 (by rw [zk_46]; rfl) rfl rfl (Nat.le_of_ble_eq_true rfl) (Nat.le_refl _) rfl dX3_learn_131 ?_
      show J 134 [(0, .ref 46), (1, .int a1)] [.int q2.1] 117 zRF q2.2
      refine zv_if_eq (tgt := 142) X dX3_learn_134 (by decide) (fun c3 => ?_) (fun c3 => ?_)
      · replace e := zit e c3
        exact k_X3_learn_L142 q hd X ih _ _ e
      · replace e := zif e c3
        refine zv_aload_n X dX3_learn_137 rfl rfl ?_
        refine zv_iload_n X dX3_learn_138 rfl rfl ?_
        refine zb e (fun q4 gq4 e => ?_)
        refine zv_callV (stk := [.int a1, .ref 46]) (as := [.int a1]) (st := []) (k := 46) X zl_RX3_70 zm_X3_setToZero (k_X3_setToZero (d := d - 1) (by omega) gq4) (by omega) zb_46 (by rw [zk_46]; rfl) rfl rfl (Nat.le_of_ble_eq_true rfl) (Nat.le_refl _) rfl dX3_learn_139 ?_
        show J 142 [(0, .ref 46), (1, .int a1)] [] 117 zRF q4
        exact k_X3_learn_L142 q hd X ih _ _ e
set_option maxRecDepth 100000 in
set_option maxHeartbeats 4000000 in
theorem k_X3_learn_L59 {l : Launch} {D : va_G} {cy : Nat → ClassId} {S0 d : Nat} {J : zJ} (q : zHp) (hd : 3 ≤ d) (X : zOK l D cy S0 d RX3 cX3_learn 3 (yX3_learn.name == "<init>") 117 117 none (zRT 117 zRF none q) J) : ∀ (f : Nat) (a1 : Int32) (h : zHp), s_X3_learn_L59 f a1 h = some q → J 59 [(0, .ref 46), (1, .int a1)] [] 117 zRF h := by
  intro f
  induction f with
  | zero => intro _ h e; exact absurd e (fun z => by cases z)
  | succ f ih =>
    intro a1 h e
    rw [s_X3_learn_L59] at e
    refine zv_iload_n X dX3_learn_59 rfl rfl ?_
    refine zv_aload_n X dX3_learn_60 rfl rfl ?_
    refine zv_getR X zf_RX3_32 znt_o zk_46 zb_46 zr_46_0 dX3_learn_61 ?_
    refine zb e (fun q1 gq1 e => ?_)
    refine zv_callV (stk := [.ref 24, .int a1]) (as := []) (st := [.int a1]) (k := 24) X zl_RX3_36 zm_X5_size (k_X5_size (d := d - 1) (by omega) gq1) (by omega) zb_24 (by rw [zk_24]; rfl) rfl rfl (Nat.le_of_ble_eq_true rfl) (Nat.le_refl _) rfl dX3_learn_64 ?_
    show J 67 [(0, .ref 46), (1, .int a1)] [.int q1.1, .int a1] 117 zRF q1.2
    refine zv_icmp_ge (tgt := 118) X dX3_learn_67 (by decide) (fun c2 => ?_) (fun c2 => ?_)
    · replace e := zit e c2
      refine zv_aload_n X dX3_learn_118 rfl rfl ?_
      refine zb e (fun q3 gq3 e => ?_)
      refine zv_callV (stk := [.ref 46]) (as := []) (st := []) (k := 46) X zl_RX3_63 zm_X3_spreadJoins (k_X3_spreadJoins (d := d - 1) (by omega) gq3) (by omega) zb_46 (by rw [zk_46]; rfl) rfl rfl (Nat.le_of_ble_eq_true rfl) (Nat.le_refl _) rfl dX3_learn_119 ?_
      show J 122 [(0, .ref 46), (1, .int a1)] [] 117 zRF q3
      refine zv_iconst (v := (0 : Int32)) X dX3_learn_122 zic_0 ?_
      refine zv_istore_n (i := 1) (lv' := [(1, .int (0 : Int32)), (0, .ref 46)]) X dX3_learn_123 rfl (Nat.le_of_ble_eq_true rfl) rfl ?_
      exact zv_pick X [1, 0] rfl (k_X3_learn_L124 q hd X _ _ _ e)
    · replace e := zif e c2
      refine zv_iload_n X dX3_learn_70 rfl rfl ?_
      refine zv_iconst (v := (1 : Int32)) X dX3_learn_71 zic_1 ?_
      refine zv_iadd X dX3_learn_72 ?_
      refine zb e (fun v4 gv4 e => ?_)
      refine zv_nmI X gv4 ?_
      refine zv_istore_n (i := 2) (lv' := [(2, .int v4), (0, .ref 46), (1, .int a1)]) X dX3_learn_73 rfl (Nat.le_of_ble_eq_true rfl) rfl ?_
      exact zv_pick X [1, 2, 0] rfl (k_X3_learn_L74 q hd X ih _ _ _ _ e)
set_option maxRecDepth 100000 in
set_option maxHeartbeats 4000000 in
theorem k_X3_learn_L26 {l : Launch} {D : va_G} {cy : Nat → ClassId} {S0 d : Nat} {J : zJ} (q : zHp) (hd : 3 ≤ d) (X : zOK l D cy S0 d RX3 cX3_learn 3 (yX3_learn.name == "<init>") 117 117 none (zRT 117 zRF none q) J) : ∀ (f : Nat) (a1 : Int32) (h : zHp), s_X3_learn_L26 f a1 h = some q → J 26 [(0, .ref 46), (1, .int a1)] [] 117 zRF h := by
  intro f
  induction f with
  | zero => intro _ h e; exact absurd e (fun z => by cases z)
  | succ f ih =>
    intro a1 h e
    rw [s_X3_learn_L26] at e
    refine zv_iload_n X dX3_learn_26 rfl rfl ?_
    refine zv_aload_n X dX3_learn_27 rfl rfl ?_
    refine zv_getR X zf_RX3_32 znt_o zk_46 zb_46 zr_46_0 dX3_learn_28 ?_
    refine zb e (fun q1 gq1 e => ?_)
    refine zv_callV (stk := [.ref 24, .int a1]) (as := []) (st := [.int a1]) (k := 24) X zl_RX3_36 zm_X5_size (k_X5_size (d := d - 1) (by omega) gq1) (by omega) zb_24 (by rw [zk_24]; rfl) rfl rfl (Nat.le_of_ble_eq_true rfl) (Nat.le_refl _) rfl dX3_learn_31 ?_
    show J 34 [(0, .ref 46), (1, .int a1)] [.int q1.1, .int a1] 117 zRF q1.2
    refine zv_icmp_ge (tgt := 57) X dX3_learn_34 (by decide) (fun c2 => ?_) (fun c2 => ?_)
    · replace e := zit e c2
      refine zv_iconst (v := (0 : Int32)) X dX3_learn_57 zic_0 ?_
      refine zv_istore_n (i := 1) (lv' := [(1, .int (0 : Int32)), (0, .ref 46)]) X dX3_learn_58 rfl (Nat.le_of_ble_eq_true rfl) rfl ?_
      exact zv_pick X [1, 0] rfl (k_X3_learn_L59 q hd X _ _ _ e)
    · replace e := zif e c2
      refine zv_aload_n X dX3_learn_37 rfl rfl ?_
      refine zv_getR X zf_RX3_9 znt_a zk_46 zb_46 zr_46_1 dX3_learn_38 ?_
      refine zv_iload_n X dX3_learn_41 rfl rfl ?_
      refine zv_aload_n X dX3_learn_42 rfl rfl ?_
      refine zv_getR X zf_RX3_32 znt_o zk_46 zb_46 zr_46_0 dX3_learn_43 ?_
      refine zv_iload_n X dX3_learn_46 rfl rfl ?_
      refine zb e (fun q3 gq3 e => ?_)
      refine zv_callV (stk := [.int a1, .ref 24, .int a1, .ref 47]) (as := [.int a1]) (st := [.int a1, .ref 47]) (k := 24) X zl_RX3_55 zm_X5_ownScore (k_X5_ownScore (d := d - 1) (by omega) gq3) (by omega) zb_24 (by rw [zk_24]; rfl) rfl rfl (Nat.le_of_ble_eq_true rfl) (Nat.le_refl _) rfl dX3_learn_47 ?_
      show J 50 [(0, .ref 46), (1, .int a1)] [.int q3.1, .int a1, .ref 47] 117 zRF q3.2
      refine zb e (fun h4 gh4 e => ?_)
      refine zv_iast X zk_47 zl_47 zb_47 dX3_learn_50 gh4 ?_
      refine zv_iinc (k := 1) (v := a1 + (1 : Int32)) (lv' := [(1, .int (a1 + (1 : Int32))), (0, .ref 46)]) X dX3_learn_51 rfl rfl (Nat.le_of_ble_eq_true rfl) rfl ?_
      refine zv_goto (tgt := 26) X dX3_learn_54 (by decide) ?_
      exact zv_pick X [1, 0] rfl (ih _ _ e)
set_option maxRecDepth 100000 in
set_option maxHeartbeats 4000000 in
theorem k_X3_learn {l : Launch} {D : va_G} {cy : Nat → ClassId} {S0 d : Nat} (hd : 3 ≤ d) {h : zHp} {q : zHp} (e : s_X3_learn  h = some q) : zCT l D cy S0 d yX3_learn cX3_learn 3 none [.ref 46] 117 zRF h none 117 zRF q := by
  unfold s_X3_learn at e
  refine zCT_of RX3 rfl zm_X3_learn (Nat.le_refl _) (Nat.le_of_ble_eq_true rfl) (fun J X => ?_)
  show J 0 [(0, .ref 46)] [] 117 zRF h
  refine zv_aload_n X dX3_learn_0 rfl rfl ?_
  refine zv_getR X zf_RX3_15 znt_a zk_46 zb_46 zr_46_2 dX3_learn_1 ?_
  refine zv_lconst (v := (0 : Int64)) X dX3_learn_4 rfl ?_
  refine zb e (fun q1 gq1 e => ?_)
  refine zv_callS (stk := [.long (0 : Int64), .ref 48]) (as := [.ref 48, .long (0 : Int64)]) (st := []) X zl_RX3_46 zm_J7_fill_d0a16 (k_J7_fill_d0a16_48 (d := d - 1) zb_48 (by omega) gq1) (by omega) rfl (Nat.le_of_ble_eq_true rfl) (Nat.le_refl _) rfl dX3_learn_5 ?_
  show J 8 [(0, .ref 46)] [] 117 zRF q1
  refine zv_aload_n X dX3_learn_8 rfl rfl ?_
  refine zv_getR X zf_RX3_19 znt_a zk_46 zb_46 zr_46_3 dX3_learn_9 ?_
  refine zv_lconst (v := (0 : Int64)) X dX3_learn_12 rfl ?_
  refine zb e (fun q2 gq2 e => ?_)
  refine zv_callS (stk := [.long (0 : Int64), .ref 49]) (as := [.ref 49, .long (0 : Int64)]) (st := []) X zl_RX3_46 zm_J7_fill_d0a16 (k_J7_fill_d0a16_49 (d := d - 1) zb_49 (by omega) gq2) (by omega) rfl (Nat.le_of_ble_eq_true rfl) (Nat.le_refl _) rfl dX3_learn_13 ?_
  show J 16 [(0, .ref 46)] [] 117 zRF q2
  refine zv_aload_n X dX3_learn_16 rfl rfl ?_
  refine zv_getR X zf_RX3_22 znt_a zk_46 zb_46 zr_46_4 dX3_learn_17 ?_
  refine zv_iconst (v := (0 : Int32)) X dX3_learn_20 zic_0 ?_
  refine zb e (fun q3 gq3 e => ?_)
  refine zv_callS (stk := [.int (0 : Int32), .ref 50]) (as := [.ref 50, .int (0 : Int32)]) (st := []) X zl_RX3_52 zm_J7_fill_53178 (k_J7_fill_53178_50 (d := d - 1) zb_50 (by omega) gq3) (by omega) rfl (Nat.le_of_ble_eq_true rfl) (Nat.le_refl _) rfl dX3_learn_21 ?_
  show J 24 [(0, .ref 46)] [] 117 zRF q3
  refine zv_iconst (v := (0 : Int32)) X dX3_learn_24 zic_0 ?_
  refine zv_istore_n (i := 1) (lv' := [(1, .int (0 : Int32)), (0, .ref 46)]) X dX3_learn_25 rfl (Nat.le_of_ble_eq_true rfl) rfl ?_
  exact zv_pick X [1, 0] rfl (k_X3_learn_L26 q hd X _ _ _ e)
-- X3_isInDouble
def s_X3_isInDouble_L14 (b0 : Int32) (h : zHp) : Option (Int32 × zHp) :=
  (zbo b0).bind fun u1 =>
  some (b0, h)
def s_X3_isInDouble (a1 : Int32) (h : zHp) : Option (Int32 × zHp) :=
  (zri h 50 5 a1).bind fun v1 =>
  if v1 = 0 then
    s_X3_isInDouble_L14 (0 : Int32) h
  else
    s_X3_isInDouble_L14 (1 : Int32) h
set_option maxRecDepth 100000 in
set_option maxHeartbeats 4000000 in
theorem k_X3_isInDouble_L14 {l : Launch} {D : va_G} {cy : Nat → ClassId} {S0 d : Nat} {J : zJ} (q : (Int32 × zHp)) (hd : 0 ≤ d) (X : zOK l D cy S0 d RX3 cX3_isInDouble 2 (yX3_isInDouble.name == "<init>") 117 117 (some .boolean) (zRT 117 zRF (some (.int q.1)) q.2) J) : ∀ (b0 : Int32) (h : zHp), s_X3_isInDouble_L14 b0 h = some q → J 14 [] [.int b0] 117 zRF h := by
  intro b0 h e
  unfold s_X3_isInDouble_L14 at e
  refine zb e (fun u gu e => ?_)
  exact zv_retZ X e rfl (zbo_ok gu) dX3_isInDouble_14
set_option maxRecDepth 100000 in
set_option maxHeartbeats 4000000 in
theorem k_X3_isInDouble {l : Launch} {D : va_G} {cy : Nat → ClassId} {S0 d : Nat} (hd : 0 ≤ d) {a1 : Int32} {h : zHp} {q : (Int32 × zHp)} (e : s_X3_isInDouble a1 h = some q) : zCT l D cy S0 d yX3_isInDouble cX3_isInDouble 2 (some .boolean) [.ref 46, .int a1] 117 zRF h (some (.int q.1)) 117 zRF q.2 := by
  unfold s_X3_isInDouble at e
  refine zCT_of RX3 rfl zm_X3_isInDouble (Nat.le_refl _) (Nat.le_of_ble_eq_true rfl) (fun J X => ?_)
  show J 0 [(0, .ref 46), (1, .int a1)] [] 117 zRF h
  refine zv_aload_n X dX3_isInDouble_0 rfl rfl ?_
  refine zv_getR X zf_RX3_22 znt_a zk_46 zb_46 zr_46_4 dX3_isInDouble_1 ?_
  refine zv_iload_n X dX3_isInDouble_4 rfl rfl ?_
  refine zb e (fun v1 gv1 e => ?_)
  refine zv_iald X zk_50 zl_50 zb_50 dX3_isInDouble_5 gv1 ?_
  refine zv_if_eq (tgt := 13) X dX3_isInDouble_6 (by decide) (fun c2 => ?_) (fun c2 => ?_)
  · replace e := zit e c2
    refine zv_iconst (v := (0 : Int32)) X dX3_isInDouble_13 zic_0 ?_
    exact zv_pick X [] rfl (k_X3_isInDouble_L14 q hd X _ _ e)
  · replace e := zif e c2
    refine zv_iconst (v := (1 : Int32)) X dX3_isInDouble_9 zic_1 ?_
    refine zv_goto (tgt := 14) X dX3_isInDouble_10 (by decide) ?_
    exact zv_pick X [] rfl (k_X3_isInDouble_L14 q hd X _ _ e)
-- X3_determinant
def s_X3_determinant_L96 (rc : Int32 → Int32 → Int32 → zHp → Option (Int64 × zHp)) (k16 : Int32 → Int32 → Int32 → Int64 → Int64 → Int32 → zHp → Option (Int64 × zHp)) (a2 : Int32) (a3 : Int32) (a4 : Int32) (a5 : Int64) (a7 : Int64) (a9 : Int32) (h : zHp) : Option (Int64 × zHp) :=
  k16 a2 a3 a4 a5 a7 (a9 + (1 : Int32)) h
def s_X3_determinant_L91 (rc : Int32 → Int32 → Int32 → zHp → Option (Int64 × zHp)) (k16 : Int32 → Int32 → Int32 → Int64 → Int64 → Int32 → zHp → Option (Int64 × zHp)) (a2 : Int32) (a3 : Int32) (a4 : Int32) (a5 : Int64) (a7 : Int64) (a9 : Int32) (h : zHp) : Option (Int64 × zHp) :=
  (some (-a7)).bind fun v1 =>
  s_X3_determinant_L96 rc k16 a2 a3 a4 a5 v1 a9 h
def s_X3_determinant_L55 (rc : Int32 → Int32 → Int32 → zHp → Option (Int64 × zHp)) (k16 : Int32 → Int32 → Int32 → Int64 → Int64 → Int32 → zHp → Option (Int64 × zHp)) (a2 : Int32) (a3 : Int32) (a4 : Int32) (a5 : Int64) (a7 : Int64) (a9 : Int32) (b0 : Int64) (h : zHp) : Option (Int64 × zHp) :=
  if b0 = (0 : Int64) then
    s_X3_determinant_L91 rc k16 a2 a3 a4 a5 a7 a9 h
  else
    (rc a2 (a3 + (1 : Int32)) (a4 ||| ((1 : Int32) <<< (a9 &&& 31))) h).bind fun q2 =>
    (some (a5 + ((a7 * b0) * q2.1))).bind fun v3 =>
    s_X3_determinant_L91 rc k16 a2 a3 a4 v3 a7 a9 q2.2
def s_X3_determinant_L16 (rc : Int32 → Int32 → Int32 → zHp → Option (Int64 × zHp)) : Nat → Int32 → Int32 → Int32 → Int64 → Int64 → Int32 → zHp → Option (Int64 × zHp)
  | 0, _, _, _, _, _, _, _ => none
  | f + 1, a2, a3, a4, a5, a7, a9, h =>
  if (5 : Int32) ≤ a9 then
    some (a5, h)
  else
    if ((a4 >>> (a9 &&& 31)) &&& (1 : Int32)) = 0 then
      if a9 = a2 then
        (zrj h 49 5 a3).bind fun v5 =>
        s_X3_determinant_L55 rc (s_X3_determinant_L16 rc f) a2 a3 a4 a5 a7 a9 v5 h
      else
        (zrj h 48 25 ((a3 * (5 : Int32)) + a9)).bind fun v4 =>
        s_X3_determinant_L55 rc (s_X3_determinant_L16 rc f) a2 a3 a4 a5 a7 a9 v4 h
    else
      s_X3_determinant_L96 rc (s_X3_determinant_L16 rc f) a2 a3 a4 a5 a7 a9 h
def s_X3_determinant : Nat → Int32 → Int32 → Int32 → zHp → Option (Int64 × zHp)
  | 0, _, _, _, _ => none
  | n + 1, a2, a3, a4, h =>
  if a3 < (5 : Int32) then
    s_X3_determinant_L16 (s_X3_determinant n) zFU a2 a3 a4 (0 : Int64) (1 : Int64) (0 : Int32) h
  else
    some ((1 : Int64), h)
set_option maxRecDepth 100000 in
set_option maxHeartbeats 4000000 in
theorem k_X3_determinant_L96 {l : Launch} {D : va_G} {cy : Nat → ClassId} {S0 d : Nat} {J : zJ} (q : (Int64 × zHp)) (hd : 1 ≤ d) (X : zOK l D cy S0 d RX3 cX3_determinant 12 (yX3_determinant.name == "<init>") 117 117 (some .long) (zRT 117 zRF (some (.long q.1)) q.2) J) {rc : Int32 → Int32 → Int32 → zHp → Option (Int64 × zHp)} (hrc : ∀ (a2 : Int32) (a3 : Int32) (a4 : Int32) (h : zHp) (q : (Int64 × zHp)), rc a2 a3 a4 h = some q → zCT l D cy S0 (d - 1) yX3_determinant cX3_determinant 12 (some .long) [.ref 48, .ref 49, .int a2, .int a3, .int a4] 117 zRF h (some (.long q.1)) 117 zRF q.2) {k16 : Int32 → Int32 → Int32 → Int64 → Int64 → Int32 → zHp → Option (Int64 × zHp)} (hk16 : ∀ (a2 : Int32) (a3 : Int32) (a4 : Int32) (a5 : Int64) (a7 : Int64) (a9 : Int32) (h : zHp), k16 a2 a3 a4 a5 a7 a9 h = some q → J 16 [(0, .ref 48), (1, .ref 49), (2, .int a2), (3, .int a3), (4, .int a4), (5, .long a5), (7, .long a7), (9, .int a9)] [] 117 zRF h) : ∀ (a2 : Int32) (a3 : Int32) (a4 : Int32) (a5 : Int64) (a7 : Int64) (a9 : Int32) (h : zHp), s_X3_determinant_L96 rc k16 a2 a3 a4 a5 a7 a9 h = some q → J 96 [(0, .ref 48), (1, .ref 49), (2, .int a2), (3, .int a3), (4, .int a4), (5, .long a5), (7, .long a7), (9, .int a9)] [] 117 zRF h := by
  intro a2 a3 a4 a5 a7 a9 h e
  unfold s_X3_determinant_L96 at e
  refine zv_iinc (k := 7) (v := a9 + (1 : Int32)) (lv' := [(9, .int (a9 + (1 : Int32))), (0, .ref 48), (1, .ref 49), (2, .int a2), (3, .int a3), (4, .int a4), (5, .long a5), (7, .long a7)]) X dX3_determinant_96 rfl rfl (Nat.le_of_ble_eq_true rfl) rfl ?_
  refine zv_goto (tgt := 16) X dX3_determinant_99 (by decide) ?_
  exact zv_pick X [1, 2, 3, 4, 5, 6, 7, 0] rfl (hk16 _ _ _ _ _ _ _ e)
set_option maxRecDepth 100000 in
set_option maxHeartbeats 4000000 in
theorem k_X3_determinant_L91 {l : Launch} {D : va_G} {cy : Nat → ClassId} {S0 d : Nat} {J : zJ} (q : (Int64 × zHp)) (hd : 1 ≤ d) (X : zOK l D cy S0 d RX3 cX3_determinant 12 (yX3_determinant.name == "<init>") 117 117 (some .long) (zRT 117 zRF (some (.long q.1)) q.2) J) {rc : Int32 → Int32 → Int32 → zHp → Option (Int64 × zHp)} (hrc : ∀ (a2 : Int32) (a3 : Int32) (a4 : Int32) (h : zHp) (q : (Int64 × zHp)), rc a2 a3 a4 h = some q → zCT l D cy S0 (d - 1) yX3_determinant cX3_determinant 12 (some .long) [.ref 48, .ref 49, .int a2, .int a3, .int a4] 117 zRF h (some (.long q.1)) 117 zRF q.2) {k16 : Int32 → Int32 → Int32 → Int64 → Int64 → Int32 → zHp → Option (Int64 × zHp)} (hk16 : ∀ (a2 : Int32) (a3 : Int32) (a4 : Int32) (a5 : Int64) (a7 : Int64) (a9 : Int32) (h : zHp), k16 a2 a3 a4 a5 a7 a9 h = some q → J 16 [(0, .ref 48), (1, .ref 49), (2, .int a2), (3, .int a3), (4, .int a4), (5, .long a5), (7, .long a7), (9, .int a9)] [] 117 zRF h) : ∀ (a2 : Int32) (a3 : Int32) (a4 : Int32) (a5 : Int64) (a7 : Int64) (a9 : Int32) (h : zHp), s_X3_determinant_L91 rc k16 a2 a3 a4 a5 a7 a9 h = some q → J 91 [(0, .ref 48), (1, .ref 49), (2, .int a2), (3, .int a3), (4, .int a4), (5, .long a5), (7, .long a7), (9, .int a9)] [] 117 zRF h := by
  intro a2 a3 a4 a5 a7 a9 h e
  unfold s_X3_determinant_L91 at e
  refine zv_lload X dX3_determinant_91 rfl ?_
  refine zv_lneg X dX3_determinant_93 ?_
  refine zb e (fun v1 gv1 e => ?_)
  refine zv_nmJ X gv1 ?_
  refine zv_lstore (i := 7) (lv' := [(7, .long v1), (0, .ref 48), (1, .ref 49), (2, .int a2), (3, .int a3), (4, .int a4), (5, .long a5), (9, .int a9)]) X dX3_determinant_94 (Nat.le_of_ble_eq_true rfl) rfl ?_
  exact zv_pick X [1, 2, 3, 4, 5, 6, 0, 7] rfl (k_X3_determinant_L96 q hd X hrc hk16 _ _ _ _ _ _ _ e)
set_option maxRecDepth 100000 in
set_option maxHeartbeats 4000000 in
theorem k_X3_determinant_L55 {l : Launch} {D : va_G} {cy : Nat → ClassId} {S0 d : Nat} {J : zJ} (q : (Int64 × zHp)) (hd : 1 ≤ d) (X : zOK l D cy S0 d RX3 cX3_determinant 12 (yX3_determinant.name == "<init>") 117 117 (some .long) (zRT 117 zRF (some (.long q.1)) q.2) J) {rc : Int32 → Int32 → Int32 → zHp → Option (Int64 × zHp)} (hrc : ∀ (a2 : Int32) (a3 : Int32) (a4 : Int32) (h : zHp) (q : (Int64 × zHp)), rc a2 a3 a4 h = some q → zCT l D cy S0 (d - 1) yX3_determinant cX3_determinant 12 (some .long) [.ref 48, .ref 49, .int a2, .int a3, .int a4] 117 zRF h (some (.long q.1)) 117 zRF q.2) {k16 : Int32 → Int32 → Int32 → Int64 → Int64 → Int32 → zHp → Option (Int64 × zHp)} (hk16 : ∀ (a2 : Int32) (a3 : Int32) (a4 : Int32) (a5 : Int64) (a7 : Int64) (a9 : Int32) (h : zHp), k16 a2 a3 a4 a5 a7 a9 h = some q → J 16 [(0, .ref 48), (1, .ref 49), (2, .int a2), (3, .int a3), (4, .int a4), (5, .long a5), (7, .long a7), (9, .int a9)] [] 117 zRF h) : ∀ (a2 : Int32) (a3 : Int32) (a4 : Int32) (a5 : Int64) (a7 : Int64) (a9 : Int32) (b0 : Int64) (h : zHp), s_X3_determinant_L55 rc k16 a2 a3 a4 a5 a7 a9 b0 h = some q → J 55 [(0, .ref 48), (1, .ref 49), (2, .int a2), (3, .int a3), (4, .int a4), (5, .long a5), (7, .long a7), (9, .int a9)] [.long b0] 117 zRF h := by
  intro a2 a3 a4 a5 a7 a9 b0 h e
  unfold s_X3_determinant_L55 at e
  refine zv_lstore (i := 10) (lv' := [(10, .long b0), (0, .ref 48), (1, .ref 49), (2, .int a2), (3, .int a3), (4, .int a4), (5, .long a5), (7, .long a7), (9, .int a9)]) X dX3_determinant_55 (Nat.le_of_ble_eq_true rfl) rfl ?_
  refine zv_lload X dX3_determinant_57 rfl ?_
  refine zv_lconst (v := (0 : Int64)) X dX3_determinant_59 rfl ?_
  refine zv_lcmp_eq (tgt := 91) (pc2 := 64) X dX3_determinant_60 rfl dX3_determinant_61 (by decide) rfl (fun c1 => ?_) (fun c1 => ?_)
  · replace e := zit e c1
    exact zv_pick X [1, 2, 3, 4, 5, 6, 7, 8] rfl (k_X3_determinant_L91 q hd X hrc hk16 _ _ _ _ _ _ _ e)
  · replace e := zif e c1
    refine zv_lload X dX3_determinant_64 rfl ?_
    refine zv_lload X dX3_determinant_66 rfl ?_
    refine zv_lload X dX3_determinant_68 rfl ?_
    refine zv_lmul X dX3_determinant_70 ?_
    refine zv_aload_n X dX3_determinant_71 rfl rfl ?_
    refine zv_aload_n X dX3_determinant_72 rfl rfl ?_
    refine zv_iload_n X dX3_determinant_73 rfl rfl ?_
    refine zv_iload_n X dX3_determinant_74 rfl rfl ?_
    refine zv_iconst (v := (1 : Int32)) X dX3_determinant_75 zic_1 ?_
    refine zv_iadd X dX3_determinant_76 ?_
    refine zv_iload X dX3_determinant_77 rfl ?_
    refine zv_iconst (v := (1 : Int32)) X dX3_determinant_79 zic_1 ?_
    refine zv_iload X dX3_determinant_80 rfl ?_
    refine zv_ishl X dX3_determinant_82 ?_
    refine zv_ior X dX3_determinant_83 ?_
    refine zb e (fun q2 gq2 e => ?_)
    refine zv_callS (stk := [.int (a4 ||| ((1 : Int32) <<< (a9 &&& 31))), .int (a3 + (1 : Int32)), .int a2, .ref 49, .ref 48, .long (a7 * b0), .long a5]) (as := [.ref 48, .ref 49, .int a2, .int (a3 + (1 : Int32)), .int (a4 ||| ((1 : Int32) <<< (a9 &&& 31)))]) (st := [.long (a7 * b0), .long a5]) X zl_RX3_74 zm_X3_determinant (hrc _ _ _ _ _ gq2) (by omega) rfl (Nat.le_of_ble_eq_true rfl) (Nat.le_refl _) rfl dX3_determinant_84 ?_
    show J 87 [(10, .long b0), (0, .ref 48), (1, .ref 49), (2, .int a2), (3, .int a3), (4, .int a4), (5, .long a5), (7, .long a7), (9, .int a9)] [.long q2.1, .long (a7 * b0), .long a5] 117 zRF q2.2
    refine zv_lmul X dX3_determinant_87 ?_
    refine zv_ladd X dX3_determinant_88 ?_
    refine zb e (fun v3 gv3 e => ?_)
    refine zv_nmJ X gv3 ?_
    refine zv_lstore (i := 5) (lv' := [(5, .long v3), (10, .long b0), (0, .ref 48), (1, .ref 49), (2, .int a2), (3, .int a3), (4, .int a4), (7, .long a7), (9, .int a9)]) X dX3_determinant_89 (Nat.le_of_ble_eq_true rfl) rfl ?_
    exact zv_pick X [2, 3, 4, 5, 6, 0, 7, 8] rfl (k_X3_determinant_L91 q hd X hrc hk16 _ _ _ _ _ _ _ e)
set_option maxRecDepth 100000 in
set_option maxHeartbeats 4000000 in
theorem k_X3_determinant_L16 {l : Launch} {D : va_G} {cy : Nat → ClassId} {S0 d : Nat} {J : zJ} (q : (Int64 × zHp)) (hd : 1 ≤ d) (X : zOK l D cy S0 d RX3 cX3_determinant 12 (yX3_determinant.name == "<init>") 117 117 (some .long) (zRT 117 zRF (some (.long q.1)) q.2) J) {rc : Int32 → Int32 → Int32 → zHp → Option (Int64 × zHp)} (hrc : ∀ (a2 : Int32) (a3 : Int32) (a4 : Int32) (h : zHp) (q : (Int64 × zHp)), rc a2 a3 a4 h = some q → zCT l D cy S0 (d - 1) yX3_determinant cX3_determinant 12 (some .long) [.ref 48, .ref 49, .int a2, .int a3, .int a4] 117 zRF h (some (.long q.1)) 117 zRF q.2) : ∀ (f : Nat) (a2 : Int32) (a3 : Int32) (a4 : Int32) (a5 : Int64) (a7 : Int64) (a9 : Int32) (h : zHp), s_X3_determinant_L16 rc f a2 a3 a4 a5 a7 a9 h = some q → J 16 [(0, .ref 48), (1, .ref 49), (2, .int a2), (3, .int a3), (4, .int a4), (5, .long a5), (7, .long a7), (9, .int a9)] [] 117 zRF h := by
  intro f
  induction f with
  | zero => intro _ _ _ _ _ _ h e; exact absurd e (fun z => by cases z)
  | succ f ih =>
    intro a2 a3 a4 a5 a7 a9 h e
    rw [s_X3_determinant_L16] at e
    refine zv_iload X dX3_determinant_16 rfl ?_
    refine zv_iconst (v := (5 : Int32)) X dX3_determinant_18 zic_5 ?_
    refine zv_icmp_ge (tgt := 102) X dX3_determinant_19 (by decide) (fun c1 => ?_) (fun c1 => ?_)
    · replace e := zit e c1
      refine zv_lload X dX3_determinant_102 rfl ?_
      exact zv_retL X e rfl dX3_determinant_104
    · replace e := zif e c1
      refine zv_iload X dX3_determinant_22 rfl ?_
      refine zv_iload X dX3_determinant_24 rfl ?_
      refine zv_ishr X dX3_determinant_26 ?_
      refine zv_iconst (v := (1 : Int32)) X dX3_determinant_27 zic_1 ?_
      refine zv_iand X dX3_determinant_28 ?_
      refine zv_if_eq (tgt := 35) X dX3_determinant_29 (by decide) (fun c2 => ?_) (fun c2 => ?_)
      · replace e := zit e c2
        refine zv_iload X dX3_determinant_35 rfl ?_
        refine zv_iload_n X dX3_determinant_37 rfl rfl ?_
        refine zv_icmp_ne (tgt := 47) X dX3_determinant_38 (by decide) (fun c3 => ?_) (fun c3 => ?_)
        · replace e := zif e c3
          refine zv_aload_n X dX3_determinant_47 rfl rfl ?_
          refine zv_iload_n X dX3_determinant_48 rfl rfl ?_
          refine zv_iconst (v := (5 : Int32)) X dX3_determinant_49 zic_5 ?_
          refine zv_imul X dX3_determinant_50 ?_
          refine zv_iload X dX3_determinant_51 rfl ?_
          refine zv_iadd X dX3_determinant_53 ?_
          refine zb e (fun v4 gv4 e => ?_)
          refine zv_lald X zk_48 zl_48 zb_48 dX3_determinant_54 gv4 ?_
          exact k_X3_determinant_L55 q hd X hrc ih _ _ _ _ _ _ _ _ e
        · replace e := zit e c3
          refine zv_aload_n X dX3_determinant_41 rfl rfl ?_
          refine zv_iload_n X dX3_determinant_42 rfl rfl ?_
          refine zb e (fun v5 gv5 e => ?_)
          refine zv_lald X zk_49 zl_49 zb_49 dX3_determinant_43 gv5 ?_
          refine zv_goto (tgt := 55) X dX3_determinant_44 (by decide) ?_
          exact k_X3_determinant_L55 q hd X hrc ih _ _ _ _ _ _ _ _ e
      · replace e := zif e c2
        refine zv_goto (tgt := 96) X dX3_determinant_32 (by decide) ?_
        exact k_X3_determinant_L96 q hd X hrc ih _ _ _ _ _ _ _ e
set_option maxRecDepth 100000 in
set_option maxHeartbeats 4000000 in
theorem k_X3_determinant {l : Launch} {D : va_G} {cy : Nat → ClassId} {S0 : Nat} : ∀ (n d : Nat) (hd0 : 0 + n ≤ d) (a2 : Int32) (a3 : Int32) (a4 : Int32) (h : zHp) (q : (Int64 × zHp)) (e : s_X3_determinant n a2 a3 a4 h = some q), zCT l D cy S0 d yX3_determinant cX3_determinant 12 (some .long) [.ref 48, .ref 49, .int a2, .int a3, .int a4] 117 zRF h (some (.long q.1)) 117 zRF q.2 := by
  intro n
  induction n with
  | zero => intro d hd0 _ _ _ h q e; exact absurd e (fun z => by cases z)
  | succ n ihr =>
  intro d hd0 a2 a3 a4 h q e
  have hd : 1 ≤ d := by omega
  have hrc : ∀ (a2 : Int32) (a3 : Int32) (a4 : Int32) (h : zHp) (q : (Int64 × zHp)), s_X3_determinant n a2 a3 a4 h = some q → zCT l D cy S0 (d - 1) yX3_determinant cX3_determinant 12 (some .long) [.ref 48, .ref 49, .int a2, .int a3, .int a4] 117 zRF h (some (.long q.1)) 117 zRF q.2 := fun a2 a3 a4 h q e => ihr (d - 1) (by omega) a2 a3 a4 h q e
  rw [s_X3_determinant] at e
  refine zCT_of RX3 rfl zm_X3_determinant (Nat.le_refl _) (Nat.le_of_ble_eq_true rfl) (fun J X => ?_)
  show J 0 [(0, .ref 48), (1, .ref 49), (2, .int a2), (3, .int a3), (4, .int a4)] [] 117 zRF h
  refine zv_iload_n X dX3_determinant_0 rfl rfl ?_
  refine zv_iconst (v := (5 : Int32)) X dX3_determinant_1 zic_5 ?_
  refine zv_icmp_lt (tgt := 7) X dX3_determinant_2 (by decide) (fun c1 => ?_) (fun c1 => ?_)
  · replace e := zit e c1
    refine zv_lconst (v := (0 : Int64)) X dX3_determinant_7 rfl ?_
    refine zv_lstore (i := 5) (lv' := [(5, .long (0 : Int64)), (0, .ref 48), (1, .ref 49), (2, .int a2), (3, .int a3), (4, .int a4)]) X dX3_determinant_8 (Nat.le_of_ble_eq_true rfl) rfl ?_
    refine zv_lconst (v := (1 : Int64)) X dX3_determinant_10 rfl ?_
    refine zv_lstore (i := 7) (lv' := [(7, .long (1 : Int64)), (5, .long (0 : Int64)), (0, .ref 48), (1, .ref 49), (2, .int a2), (3, .int a3), (4, .int a4)]) X dX3_determinant_11 (Nat.le_of_ble_eq_true rfl) rfl ?_
    refine zv_iconst (v := (0 : Int32)) X dX3_determinant_13 zic_0 ?_
    refine zv_istore (i := 9) (lv' := [(9, .int (0 : Int32)), (7, .long (1 : Int64)), (5, .long (0 : Int64)), (0, .ref 48), (1, .ref 49), (2, .int a2), (3, .int a3), (4, .int a4)]) X dX3_determinant_14 (Nat.le_of_ble_eq_true rfl) rfl ?_
    exact zv_pick X [3, 4, 5, 6, 7, 2, 1, 0] rfl (k_X3_determinant_L16 q hd X hrc _ _ _ _ _ _ _ _ e)
  · replace e := zif e c1
    refine zv_lconst (v := (1 : Int64)) X dX3_determinant_5 rfl ?_
    exact zv_retL X e rfl dX3_determinant_6
-- J9_abs_067f4
def s_J9_abs_067f4_L12 (b0 : Int64) (h : zHp) : Option (Int64 × zHp) :=
  some (b0, h)
def s_J9_abs_067f4 (a0 : Int64) (h : zHp) : Option (Int64 × zHp) :=
  if (0 : Int64) ≤ a0 then
    s_J9_abs_067f4_L12 a0 h
  else
    s_J9_abs_067f4_L12 (-a0) h
set_option maxRecDepth 100000 in
set_option maxHeartbeats 4000000 in
theorem k_J9_abs_067f4_L12 {l : Launch} {D : va_G} {cy : Nat → ClassId} {S0 d : Nat} {J : zJ} (q : (Int64 × zHp)) (hd : 0 ≤ d) (X : zOK l D cy S0 d RJ9 cJ9_abs_067f4 2 (yJ9_abs_067f4.name == "<init>") 117 117 (some .long) (zRT 117 zRF (some (.long q.1)) q.2) J) : ∀ (b0 : Int64) (h : zHp), s_J9_abs_067f4_L12 b0 h = some q → J 12 [] [.long b0] 117 zRF h := by
  intro b0 h e
  unfold s_J9_abs_067f4_L12 at e
  exact zv_retL X e rfl dJ9_abs_067f4_12
set_option maxRecDepth 100000 in
set_option maxHeartbeats 4000000 in
theorem k_J9_abs_067f4 {l : Launch} {D : va_G} {cy : Nat → ClassId} {S0 d : Nat} (hd : 0 ≤ d) {a0 : Int64} {h : zHp} {q : (Int64 × zHp)} (e : s_J9_abs_067f4 a0 h = some q) : zCT l D cy S0 d yJ9_abs_067f4 cJ9_abs_067f4 2 (some .long) [.long a0] 117 zRF h (some (.long q.1)) 117 zRF q.2 := by
  unfold s_J9_abs_067f4 at e
  refine zCT_of RJ9 rfl zm_J9_abs_067f4 (Nat.le_refl _) (Nat.le_of_ble_eq_true rfl) (fun J X => ?_)
  show J 0 [(0, .long a0)] [] 117 zRF h
  refine zv_lload_n X dJ9_abs_067f4_0 rfl rfl ?_
  refine zv_lconst (v := (0 : Int64)) X dJ9_abs_067f4_1 rfl ?_
  refine zv_lcmp_ge (tgt := 11) (pc2 := 6) X dJ9_abs_067f4_2 rfl dJ9_abs_067f4_3 (by decide) rfl (fun c1 => ?_) (fun c1 => ?_)
  · replace e := zit e c1
    refine zv_lload_n X dJ9_abs_067f4_11 rfl rfl ?_
    exact zv_pick X [] rfl (k_J9_abs_067f4_L12 q hd X _ _ e)
  · replace e := zif e c1
    refine zv_lload_n X dJ9_abs_067f4_6 rfl rfl ?_
    refine zv_lneg X dJ9_abs_067f4_7 ?_
    refine zv_goto (tgt := 12) X dJ9_abs_067f4_8 (by decide) ?_
    exact zv_pick X [] rfl (k_J9_abs_067f4_L12 q hd X _ _ e)
-- X2_commonDivisor
def s_X2_commonDivisor_L44 (a4 : Int64) (h : zHp) : Option (Int64 × zHp) :=
  some (a4, h)
def s_X2_commonDivisor_L9 : Nat → Int64 → Int64 → Int32 → zHp → Option (Int64 × zHp)
  | 0, _, _, _, _ => none
  | f + 1, a4, a6, a8, h =>
  if (100 : Int32) ≤ a8 then
    s_X2_commonDivisor_L44 a4 h
  else
    if a6 = (0 : Int64) then
      s_X2_commonDivisor_L44 a4 h
    else
      (zlrem a4 a6).bind fun v3 =>
      s_X2_commonDivisor_L9 f a6 v3 (a8 + (1 : Int32)) h
def s_X2_commonDivisor (a0 : Int64) (a2 : Int64) (h : zHp) : Option (Int64 × zHp) :=
  s_X2_commonDivisor_L9 zFU a0 a2 (0 : Int32) h
set_option maxRecDepth 100000 in
set_option maxHeartbeats 4000000 in
theorem k_X2_commonDivisor_L44 {l : Launch} {D : va_G} {cy : Nat → ClassId} {S0 d : Nat} {J : zJ} (q : (Int64 × zHp)) (hd : 0 ≤ d) (X : zOK l D cy S0 d RX2 cX2_commonDivisor 11 (yX2_commonDivisor.name == "<init>") 117 117 (some .long) (zRT 117 zRF (some (.long q.1)) q.2) J) : ∀ (a4 : Int64) (h : zHp), s_X2_commonDivisor_L44 a4 h = some q → J 44 [(4, .long a4)] [] 117 zRF h := by
  intro a4 h e
  unfold s_X2_commonDivisor_L44 at e
  refine zv_lload X dX2_commonDivisor_44 rfl ?_
  exact zv_retL X e rfl dX2_commonDivisor_46
set_option maxRecDepth 100000 in
set_option maxHeartbeats 4000000 in
theorem k_X2_commonDivisor_L9 {l : Launch} {D : va_G} {cy : Nat → ClassId} {S0 d : Nat} {J : zJ} (q : (Int64 × zHp)) (hd : 0 ≤ d) (X : zOK l D cy S0 d RX2 cX2_commonDivisor 11 (yX2_commonDivisor.name == "<init>") 117 117 (some .long) (zRT 117 zRF (some (.long q.1)) q.2) J) : ∀ (f : Nat) (a4 : Int64) (a6 : Int64) (a8 : Int32) (h : zHp), s_X2_commonDivisor_L9 f a4 a6 a8 h = some q → J 9 [(4, .long a4), (6, .long a6), (8, .int a8)] [] 117 zRF h := by
  intro f
  induction f with
  | zero => intro _ _ _ h e; exact absurd e (fun z => by cases z)
  | succ f ih =>
    intro a4 a6 a8 h e
    rw [s_X2_commonDivisor_L9] at e
    refine zv_iload X dX2_commonDivisor_9 rfl ?_
    refine zv_bipush (v := (100 : Int32)) X dX2_commonDivisor_11 zbp_100 ?_
    refine zv_icmp_ge (tgt := 44) X dX2_commonDivisor_13 (by decide) (fun c1 => ?_) (fun c1 => ?_)
    · replace e := zit e c1
      exact zv_pick X [0] rfl (k_X2_commonDivisor_L44 q hd X _ _ e)
    · replace e := zif e c1
      refine zv_lload X dX2_commonDivisor_16 rfl ?_
      refine zv_lconst (v := (0 : Int64)) X dX2_commonDivisor_18 rfl ?_
      refine zv_lcmp_eq (tgt := 44) (pc2 := 23) X dX2_commonDivisor_19 rfl dX2_commonDivisor_20 (by decide) rfl (fun c2 => ?_) (fun c2 => ?_)
      · replace e := zit e c2
        exact zv_pick X [0] rfl (k_X2_commonDivisor_L44 q hd X _ _ e)
      · replace e := zif e c2
        refine zv_lload X dX2_commonDivisor_23 rfl ?_
        refine zv_lload X dX2_commonDivisor_25 rfl ?_
        refine zb e (fun v3 gv3 e => ?_)
        refine zv_lrem X dX2_commonDivisor_27 gv3 ?_
        refine zv_lstore (i := 9) (lv' := [(9, .long v3), (4, .long a4), (6, .long a6), (8, .int a8)]) X dX2_commonDivisor_28 (Nat.le_of_ble_eq_true rfl) rfl ?_
        refine zv_lload X dX2_commonDivisor_30 rfl ?_
        refine zv_lstore (i := 4) (lv' := [(4, .long a6), (9, .long v3), (6, .long a6), (8, .int a8)]) X dX2_commonDivisor_32 (Nat.le_of_ble_eq_true rfl) rfl ?_
        refine zv_lload X dX2_commonDivisor_34 rfl ?_
        refine zv_lstore (i := 6) (lv' := [(6, .long v3), (4, .long a6), (9, .long v3), (8, .int a8)]) X dX2_commonDivisor_36 (Nat.le_of_ble_eq_true rfl) rfl ?_
        refine zv_iinc (k := 3) (v := a8 + (1 : Int32)) (lv' := [(8, .int (a8 + (1 : Int32))), (6, .long v3), (4, .long a6), (9, .long v3)]) X dX2_commonDivisor_38 rfl rfl (Nat.le_of_ble_eq_true rfl) rfl ?_
        refine zv_goto (tgt := 9) X dX2_commonDivisor_41 (by decide) ?_
        exact zv_pick X [2, 1, 0] rfl (ih _ _ _ _ e)
set_option maxRecDepth 100000 in
set_option maxHeartbeats 4000000 in
theorem k_X2_commonDivisor {l : Launch} {D : va_G} {cy : Nat → ClassId} {S0 d : Nat} (hd : 0 ≤ d) {a0 : Int64} {a2 : Int64} {h : zHp} {q : (Int64 × zHp)} (e : s_X2_commonDivisor a0 a2 h = some q) : zCT l D cy S0 d yX2_commonDivisor cX2_commonDivisor 11 (some .long) [.long a0, .long a2] 117 zRF h (some (.long q.1)) 117 zRF q.2 := by
  unfold s_X2_commonDivisor at e
  refine zCT_of RX2 rfl zm_X2_commonDivisor (Nat.le_refl _) (Nat.le_of_ble_eq_true rfl) (fun J X => ?_)
  show J 0 [(0, .long a0), (2, .long a2)] [] 117 zRF h
  refine zv_lload_n X dX2_commonDivisor_0 rfl rfl ?_
  refine zv_lstore (i := 4) (lv' := [(4, .long a0), (0, .long a0), (2, .long a2)]) X dX2_commonDivisor_1 (Nat.le_of_ble_eq_true rfl) rfl ?_
  refine zv_lload_n X dX2_commonDivisor_3 rfl rfl ?_
  refine zv_lstore (i := 6) (lv' := [(6, .long a2), (4, .long a0), (0, .long a0), (2, .long a2)]) X dX2_commonDivisor_4 (Nat.le_of_ble_eq_true rfl) rfl ?_
  refine zv_iconst (v := (0 : Int32)) X dX2_commonDivisor_6 zic_0 ?_
  refine zv_istore (i := 8) (lv' := [(8, .int (0 : Int32)), (6, .long a2), (4, .long a0), (0, .long a0), (2, .long a2)]) X dX2_commonDivisor_7 (Nat.le_of_ble_eq_true rfl) rfl ?_
  exact zv_pick X [2, 1, 0] rfl (k_X2_commonDivisor_L9 q hd X _ _ _ _ _ e)
-- X2_put_51
def s_X2_put_51_L49  (h : zHp) : Option zHp :=
  some h
def s_X2_put_51 (a1 : Int64) (a3 : Int64) (h : zHp) : Option zHp :=
  (zpl h 51 0 (0 : Int64)).bind fun h1 =>
  (zpl h1 51 1 (1 : Int64)).bind fun h2 =>
  (s_J9_abs_067f4 a1 h2).bind fun q3 =>
  (s_X2_commonDivisor q3.1 a3 q3.2).bind fun q4 =>
  if a3 ≤ (0 : Int64) then
    s_X2_put_51_L49 q4.2
  else
    if q4.1 ≤ (0 : Int64) then
      s_X2_put_51_L49 q4.2
    else
      (zldiv a1 q4.1).bind fun v7 =>
      (zpl q4.2 51 0 v7).bind fun h8 =>
      (zldiv a3 q4.1).bind fun v9 =>
      (zpl h8 51 1 v9).bind fun h10 =>
      s_X2_put_51_L49 h10
set_option maxRecDepth 100000 in
set_option maxHeartbeats 4000000 in
theorem k_X2_put_51_L49 {l : Launch} {D : va_G} {cy : Nat → ClassId} {S0 d : Nat} {J : zJ} (q : zHp) (hd : 1 ≤ d) (X : zOK l D cy S0 d RX2 cX2_put 7 (yX2_put.name == "<init>") 117 117 none (zRT 117 zRF none q) J) : ∀  (h : zHp), s_X2_put_51_L49  h = some q → J 49 [] [] 117 zRF h := by
  intro  h e
  unfold s_X2_put_51_L49 at e
  exact zv_retV X e rfl dX2_put_49
set_option maxRecDepth 100000 in
set_option maxHeartbeats 4000000 in
theorem k_X2_put_51 {l : Launch} {D : va_G} {cy : Nat → ClassId} {S0 d : Nat} (hd : 1 ≤ d) {a1 : Int64} {a3 : Int64} {h : zHp} {q : zHp} (e : s_X2_put_51 a1 a3 h = some q) : zCT l D cy S0 d yX2_put cX2_put 7 none [.ref 51, .long a1, .long a3] 117 zRF h none 117 zRF q := by
  unfold s_X2_put_51 at e
  refine zCT_of RX2 rfl zm_X2_put (Nat.le_refl _) (Nat.le_of_ble_eq_true rfl) (fun J X => ?_)
  show J 0 [(0, .ref 51), (1, .long a1), (3, .long a3)] [] 117 zRF h
  refine zv_aload_n X dX2_put_0 rfl rfl ?_
  refine zv_lconst (v := (0 : Int64)) X dX2_put_1 rfl ?_
  refine zb e (fun h1 gh1 e => ?_)
  refine zv_putL' X zf_RX2_7 zk_51 zb_51 dX2_put_2 gh1 ?_
  refine zv_aload_n X dX2_put_5 rfl rfl ?_
  refine zv_lconst (v := (1 : Int64)) X dX2_put_6 rfl ?_
  refine zb e (fun h2 gh2 e => ?_)
  refine zv_putL' X zf_RX2_13 zk_51 zb_51 dX2_put_7 gh2 ?_
  refine zv_lload_n X dX2_put_10 rfl rfl ?_
  refine zb e (fun q3 gq3 e => ?_)
  refine zv_callS (stk := [.long a1]) (as := [.long a1]) (st := []) X zl_RX2_16 zm_J9_abs_067f4 (k_J9_abs_067f4 (d := d - 1) (by omega) gq3) (by omega) rfl (Nat.le_of_ble_eq_true rfl) (Nat.le_refl _) rfl dX2_put_11 ?_
  show J 14 [(0, .ref 51), (1, .long a1), (3, .long a3)] [.long q3.1] 117 zRF q3.2
  refine zv_lload_n X dX2_put_14 rfl rfl ?_
  refine zb e (fun q4 gq4 e => ?_)
  refine zv_callS (stk := [.long a3, .long q3.1]) (as := [.long q3.1, .long a3]) (st := []) X zl_RX2_22 zm_X2_commonDivisor (k_X2_commonDivisor (d := d - 1) (by omega) gq4) (by omega) rfl (Nat.le_of_ble_eq_true rfl) (Nat.le_refl _) rfl dX2_put_15 ?_
  show J 18 [(0, .ref 51), (1, .long a1), (3, .long a3)] [.long q4.1] 117 zRF q4.2
  refine zv_lstore (i := 5) (lv' := [(5, .long q4.1), (0, .ref 51), (1, .long a1), (3, .long a3)]) X dX2_put_18 (Nat.le_of_ble_eq_true rfl) rfl ?_
  refine zv_lload_n X dX2_put_20 rfl rfl ?_
  refine zv_lconst (v := (0 : Int64)) X dX2_put_21 rfl ?_
  refine zv_lcmp_le (tgt := 49) (pc2 := 26) X dX2_put_22 rfl dX2_put_23 (by decide) rfl (fun c5 => ?_) (fun c5 => ?_)
  · replace e := zit e c5
    exact zv_pick X [] rfl (k_X2_put_51_L49 q hd X  _ e)
  · replace e := zif e c5
    refine zv_lload X dX2_put_26 rfl ?_
    refine zv_lconst (v := (0 : Int64)) X dX2_put_28 rfl ?_
    refine zv_lcmp_le (tgt := 49) (pc2 := 33) X dX2_put_29 rfl dX2_put_30 (by decide) rfl (fun c6 => ?_) (fun c6 => ?_)
    · replace e := zit e c6
      exact zv_pick X [] rfl (k_X2_put_51_L49 q hd X  _ e)
    · replace e := zif e c6
      refine zv_aload_n X dX2_put_33 rfl rfl ?_
      refine zv_lload_n X dX2_put_34 rfl rfl ?_
      refine zv_lload X dX2_put_35 rfl ?_
      refine zb e (fun v7 gv7 e => ?_)
      refine zv_ldiv X dX2_put_37 gv7 ?_
      refine zb e (fun h8 gh8 e => ?_)
      refine zv_putL' X zf_RX2_7 zk_51 zb_51 dX2_put_38 gh8 ?_
      refine zv_aload_n X dX2_put_41 rfl rfl ?_
      refine zv_lload_n X dX2_put_42 rfl rfl ?_
      refine zv_lload X dX2_put_43 rfl ?_
      refine zb e (fun v9 gv9 e => ?_)
      refine zv_ldiv X dX2_put_45 gv9 ?_
      refine zb e (fun h10 gh10 e => ?_)
      refine zv_putL' X zf_RX2_13 zk_51 zb_51 dX2_put_46 gh10 ?_
      exact zv_pick X [] rfl (k_X2_put_51_L49 q hd X  _ e)
-- X3_habitOf
def s_X3_habitOf (a1 : Int32) (h : zHp) : Option zHp :=
  (s_X3_determinant 6 a1 (0 : Int32) (0 : Int32) h).bind fun q1 =>
  (s_X3_determinant 6 (-1 : Int32) (0 : Int32) (0 : Int32) q1.2).bind fun q2 =>
  (s_X2_put_51 q1.1 q2.1 q2.2).bind fun q3 =>
  some q3
set_option maxRecDepth 100000 in
set_option maxHeartbeats 4000000 in
theorem k_X3_habitOf {l : Launch} {D : va_G} {cy : Nat → ClassId} {S0 d : Nat} (hd : 7 ≤ d) {a1 : Int32} {h : zHp} {q : zHp} (e : s_X3_habitOf a1 h = some q) : zCT l D cy S0 d yX3_habitOf cX3_habitOf 2 (some (.object "DoorStars$Fraction")) [.ref 46, .int a1] 117 zRF h (some (.ref 51)) 117 zRF q := by
  unfold s_X3_habitOf at e
  refine zCT_of RX3 rfl zm_X3_habitOf (Nat.le_refl _) (Nat.le_of_ble_eq_true rfl) (fun J X => ?_)
  show J 0 [(0, .ref 46), (1, .int a1)] [] 117 zRF h
  refine zv_aload_n X dX3_habitOf_0 rfl rfl ?_
  refine zv_getR X zf_RX3_28 znt_o zk_46 zb_46 zr_46_5 dX3_habitOf_1 ?_
  refine zv_aload_n X dX3_habitOf_4 rfl rfl ?_
  refine zv_getR X zf_RX3_15 znt_a zk_46 zb_46 zr_46_2 dX3_habitOf_5 ?_
  refine zv_aload_n X dX3_habitOf_8 rfl rfl ?_
  refine zv_getR X zf_RX3_19 znt_a zk_46 zb_46 zr_46_3 dX3_habitOf_9 ?_
  refine zv_iload_n X dX3_habitOf_12 rfl rfl ?_
  refine zv_iconst (v := (0 : Int32)) X dX3_habitOf_13 zic_0 ?_
  refine zv_iconst (v := (0 : Int32)) X dX3_habitOf_14 zic_0 ?_
  refine zb e (fun q1 gq1 e => ?_)
  refine zv_callS (stk := [.int (0 : Int32), .int (0 : Int32), .int a1, .ref 49, .ref 48, .ref 51]) (as := [.ref 48, .ref 49, .int a1, .int (0 : Int32), .int (0 : Int32)]) (st := [.ref 51]) X zl_RX3_74 zm_X3_determinant (k_X3_determinant 6 (d - 1) (by omega) _ _ _ _ _ gq1) (by omega) rfl (Nat.le_of_ble_eq_true rfl) (Nat.le_refl _) rfl dX3_habitOf_15 ?_
  show J 18 [(0, .ref 46), (1, .int a1)] [.long q1.1, .ref 51] 117 zRF q1.2
  refine zv_aload_n X dX3_habitOf_18 rfl rfl ?_
  refine zv_getR X zf_RX3_15 znt_a zk_46 zb_46 zr_46_2 dX3_habitOf_19 ?_
  refine zv_aload_n X dX3_habitOf_22 rfl rfl ?_
  refine zv_getR X zf_RX3_19 znt_a zk_46 zb_46 zr_46_3 dX3_habitOf_23 ?_
  refine zv_iconst (v := (-1 : Int32)) X dX3_habitOf_26 zic_m1 ?_
  refine zv_iconst (v := (0 : Int32)) X dX3_habitOf_27 zic_0 ?_
  refine zv_iconst (v := (0 : Int32)) X dX3_habitOf_28 zic_0 ?_
  refine zb e (fun q2 gq2 e => ?_)
  refine zv_callS (stk := [.int (0 : Int32), .int (0 : Int32), .int (-1 : Int32), .ref 49, .ref 48, .long q1.1, .ref 51]) (as := [.ref 48, .ref 49, .int (-1 : Int32), .int (0 : Int32), .int (0 : Int32)]) (st := [.long q1.1, .ref 51]) X zl_RX3_74 zm_X3_determinant (k_X3_determinant 6 (d - 1) (by omega) _ _ _ _ _ gq2) (by omega) rfl (Nat.le_of_ble_eq_true rfl) (Nat.le_refl _) rfl dX3_habitOf_29 ?_
  show J 32 [(0, .ref 46), (1, .int a1)] [.long q2.1, .long q1.1, .ref 51] 117 zRF q2.2
  refine zb e (fun q3 gq3 e => ?_)
  refine zv_callV (stk := [.long q2.1, .long q1.1, .ref 51]) (as := [.long q1.1, .long q2.1]) (st := []) (k := 51) X zl_RX3_78 zm_X2_put (k_X2_put_51 (d := d - 1) (by omega) gq3) (by omega) zb_51 (by rw [zk_51]; rfl) rfl rfl (Nat.le_of_ble_eq_true rfl) (Nat.le_refl _) rfl dX3_habitOf_32 ?_
  show J 35 [(0, .ref 46), (1, .int a1)] [] 117 zRF q3
  refine zv_aload_n X dX3_habitOf_35 rfl rfl ?_
  refine zv_getR X zf_RX3_28 znt_o zk_46 zb_46 zr_46_5 dX3_habitOf_36 ?_
  exact zv_retR X e ⟨_, rfl⟩ dX3_habitOf_39
-- X2_piece_51
def s_X2_piece_51_L15 (b0 : Int64) (h : zHp) : Option (Int64 × zHp) :=
  some (b0, h)
def s_X2_piece_51 (a1 : Int32) (h : zHp) : Option (Int64 × zHp) :=
  if a1 = 0 then
    s_X2_piece_51_L15 (h.2 51 0) h
  else
    s_X2_piece_51_L15 (h.2 51 1) h
set_option maxRecDepth 100000 in
set_option maxHeartbeats 4000000 in
theorem k_X2_piece_51_L15 {l : Launch} {D : va_G} {cy : Nat → ClassId} {S0 d : Nat} {J : zJ} (q : (Int64 × zHp)) (hd : 0 ≤ d) (X : zOK l D cy S0 d RX2 cX2_piece 2 (yX2_piece.name == "<init>") 117 117 (some .long) (zRT 117 zRF (some (.long q.1)) q.2) J) : ∀ (b0 : Int64) (h : zHp), s_X2_piece_51_L15 b0 h = some q → J 15 [] [.long b0] 117 zRF h := by
  intro b0 h e
  unfold s_X2_piece_51_L15 at e
  exact zv_retL X e rfl dX2_piece_15
set_option maxRecDepth 100000 in
set_option maxHeartbeats 4000000 in
theorem k_X2_piece_51 {l : Launch} {D : va_G} {cy : Nat → ClassId} {S0 d : Nat} (hd : 0 ≤ d) {a1 : Int32} {h : zHp} {q : (Int64 × zHp)} (e : s_X2_piece_51 a1 h = some q) : zCT l D cy S0 d yX2_piece cX2_piece 2 (some .long) [.ref 51, .int a1] 117 zRF h (some (.long q.1)) 117 zRF q.2 := by
  unfold s_X2_piece_51 at e
  refine zCT_of RX2 rfl zm_X2_piece (Nat.le_refl _) (Nat.le_of_ble_eq_true rfl) (fun J X => ?_)
  show J 0 [(0, .ref 51), (1, .int a1)] [] 117 zRF h
  refine zv_iload_n X dX2_piece_0 rfl rfl ?_
  refine zv_if_ne (tgt := 11) X dX2_piece_1 (by decide) (fun c1 => ?_) (fun c1 => ?_)
  · replace e := zif e c1
    refine zv_aload_n X dX2_piece_11 rfl rfl ?_
    refine zv_getL X zf_RX2_13 zk_51 zb_51 dX2_piece_12 ?_
    exact zv_pick X [] rfl (k_X2_piece_51_L15 q hd X _ _ e)
  · replace e := zit e c1
    refine zv_aload_n X dX2_piece_4 rfl rfl ?_
    refine zv_getL X zf_RX2_7 zk_51 zb_51 dX2_piece_5 ?_
    refine zv_goto (tgt := 15) X dX2_piece_8 (by decide) ?_
    exact zv_pick X [] rfl (k_X2_piece_51_L15 q hd X _ _ e)
-- X9_habit
def s_X9_habit_L23  (h : zHp) : Option (Int64 × zHp) :=
  (s_X9_refusedLong (-2 : Int32) h).bind fun q1 =>
  some (q1.1, q1.2)
def s_X9_habit (a1 : Int32) (a2 : Int32) (h : zHp) : Option (Int64 × zHp) :=
  (s_X9_isWithin a1 (5 : Int32) h).bind fun q1 =>
  if q1.1 = 0 then
    (s_X9_refusedLong (-1 : Int32) q1.2).bind fun q11 =>
    some (q11.1, q11.2)
  else
    if a2 < 0 then
      s_X9_habit_L23 q1.2
    else
      if a2 ≤ (1 : Int32) then
        (s_X3_learn q1.2).bind fun q5 =>
        (s_X3_isInDouble a1 q5).bind fun q6 =>
        if q6.1 = 0 then
          (s_X9_refusedLong (-3 : Int32) q6.2).bind fun q10 =>
          some (q10.1, q10.2)
        else
          (s_X3_habitOf a1 q6.2).bind fun q8 =>
          (s_X2_piece_51 a2 q8).bind fun q9 =>
          some (q9.1, q9.2)
      else
        s_X9_habit_L23 q1.2
set_option maxRecDepth 100000 in
set_option maxHeartbeats 4000000 in
theorem k_X9_habit_L23 {l : Launch} {D : va_G} {cy : Nat → ClassId} {S0 d : Nat} {J : zJ} (q : (Int64 × zHp)) (hd : 8 ≤ d) (X : zOK l D cy S0 d RX9 cX9_habit 3 (yX9_habit.name == "<init>") 117 117 (some .long) (zRT 117 zRF (some (.long q.1)) q.2) J) : ∀  (h : zHp), s_X9_habit_L23  h = some q → J 23 [(0, .ref 0)] [] 117 zRF h := by
  intro  h e
  unfold s_X9_habit_L23 at e
  refine zv_aload_n X dX9_habit_23 rfl rfl ?_
  refine zv_bipush (v := (-2 : Int32)) X dX9_habit_24 zbp_m2 ?_
  refine zb e (fun q1 gq1 e => ?_)
  refine zv_callV (stk := [.int (-2 : Int32), .ref 0]) (as := [.int (-2 : Int32)]) (st := []) (k := 0) X zl_RX9_224 zm_X9_refusedLong (k_X9_refusedLong (d := d - 1) (by omega) gq1) (by omega) zb_0 (by rw [zk_0]; rfl) rfl rfl (Nat.le_of_ble_eq_true rfl) (Nat.le_refl _) rfl dX9_habit_26 ?_
  show J 29 [(0, .ref 0)] [.long q1.1] 117 zRF q1.2
  exact zv_retL X e rfl dX9_habit_29
set_option maxRecDepth 100000 in
set_option maxHeartbeats 4000000 in
theorem k_X9_habit {l : Launch} {D : va_G} {cy : Nat → ClassId} {S0 d : Nat} (hd : 8 ≤ d) {a1 : Int32} {a2 : Int32} {h : zHp} {q : (Int64 × zHp)} (e : s_X9_habit a1 a2 h = some q) : zCT l D cy S0 d yX9_habit cX9_habit 3 (some .long) [.ref 0, .int a1, .int a2] 117 zRF h (some (.long q.1)) 117 zRF q.2 := by
  unfold s_X9_habit at e
  refine zCT_of RX9 rfl zm_X9_habit (Nat.le_refl _) (Nat.le_of_ble_eq_true rfl) (fun J X => ?_)
  show J 0 [(0, .ref 0), (1, .int a1), (2, .int a2)] [] 117 zRF h
  refine zv_iload_n X dX9_habit_0 rfl rfl ?_
  refine zv_iconst (v := (5 : Int32)) X dX9_habit_1 zic_5 ?_
  refine zb e (fun q1 gq1 e => ?_)
  refine zv_callS (stk := [.int (5 : Int32), .int a1]) (as := [.int a1, .int (5 : Int32)]) (st := []) X zl_RX9_112 zm_X9_isWithin (k_X9_isWithin (d := d - 1) (by omega) gq1) (by omega) rfl (Nat.le_of_ble_eq_true rfl) (Nat.le_refl _) rfl dX9_habit_2 ?_
  show J 5 [(0, .ref 0), (1, .int a1), (2, .int a2)] [.int q1.1] 117 zRF q1.2
  refine zv_if_ne (tgt := 14) X dX9_habit_5 (by decide) (fun c2 => ?_) (fun c2 => ?_)
  · replace e := zif e c2
    refine zv_iload_n X dX9_habit_14 rfl rfl ?_
    refine zv_if_lt (tgt := 23) X dX9_habit_15 (by decide) (fun c3 => ?_) (fun c3 => ?_)
    · replace e := zit e c3
      exact zv_pick X [0] rfl (k_X9_habit_L23 q hd X  _ e)
    · replace e := zif e c3
      refine zv_iload_n X dX9_habit_18 rfl rfl ?_
      refine zv_iconst (v := (1 : Int32)) X dX9_habit_19 zic_1 ?_
      refine zv_icmp_le (tgt := 30) X dX9_habit_20 (by decide) (fun c4 => ?_) (fun c4 => ?_)
      · replace e := zit e c4
        refine zv_aload_n X dX9_habit_30 rfl rfl ?_
        refine zv_getR X zf_RX9_68 znt_o zk_0 zb_0 zr_0_10 dX9_habit_31 ?_
        refine zb e (fun q5 gq5 e => ?_)
        refine zv_callV (stk := [.ref 46]) (as := []) (st := []) (k := 46) X zl_RX9_228 zm_X3_learn (k_X3_learn (d := d - 1) (by omega) gq5) (by omega) zb_46 (by rw [zk_46]; rfl) rfl rfl (Nat.le_of_ble_eq_true rfl) (Nat.le_refl _) rfl dX9_habit_34 ?_
        show J 37 [(0, .ref 0), (1, .int a1), (2, .int a2)] [] 117 zRF q5
        refine zv_aload_n X dX9_habit_37 rfl rfl ?_
        refine zv_getR X zf_RX9_68 znt_o zk_0 zb_0 zr_0_10 dX9_habit_38 ?_
        refine zv_iload_n X dX9_habit_41 rfl rfl ?_
        refine zb e (fun q6 gq6 e => ?_)
        refine zv_callV (stk := [.int a1, .ref 46]) (as := [.int a1]) (st := []) (k := 46) X zl_RX9_231 zm_X3_isInDouble (k_X3_isInDouble (d := d - 1) (by omega) gq6) (by omega) zb_46 (by rw [zk_46]; rfl) rfl rfl (Nat.le_of_ble_eq_true rfl) (Nat.le_refl _) rfl dX9_habit_42 ?_
        show J 45 [(0, .ref 0), (1, .int a1), (2, .int a2)] [.int q6.1] 117 zRF q6.2
        refine zv_if_ne (tgt := 55) X dX9_habit_45 (by decide) (fun c7 => ?_) (fun c7 => ?_)
        · replace e := zif e c7
          refine zv_aload_n X dX9_habit_55 rfl rfl ?_
          refine zv_getR X zf_RX9_68 znt_o zk_0 zb_0 zr_0_10 dX9_habit_56 ?_
          refine zv_iload_n X dX9_habit_59 rfl rfl ?_
          refine zb e (fun q8 gq8 e => ?_)
          refine zv_callV (stk := [.int a1, .ref 46]) (as := [.int a1]) (st := []) (k := 46) X zl_RX9_234 zm_X3_habitOf (k_X3_habitOf (d := d - 1) (by omega) gq8) (by omega) zb_46 (by rw [zk_46]; rfl) rfl rfl (Nat.le_of_ble_eq_true rfl) (Nat.le_refl _) rfl dX9_habit_60 ?_
          show J 63 [(0, .ref 0), (1, .int a1), (2, .int a2)] [.ref 51] 117 zRF q8
          refine zv_iload_n X dX9_habit_63 rfl rfl ?_
          refine zb e (fun q9 gq9 e => ?_)
          refine zv_callV (stk := [.int a2, .ref 51]) (as := [.int a2]) (st := []) (k := 51) X zl_RX9_238 zm_X2_piece (k_X2_piece_51 (d := d - 1) (by omega) gq9) (by omega) zb_51 (by rw [zk_51]; rfl) rfl rfl (Nat.le_of_ble_eq_true rfl) (Nat.le_refl _) rfl dX9_habit_64 ?_
          show J 67 [(0, .ref 0), (1, .int a1), (2, .int a2)] [.long q9.1] 117 zRF q9.2
          exact zv_retL X e rfl dX9_habit_67
        · replace e := zit e c7
          refine zv_aload_n X dX9_habit_48 rfl rfl ?_
          refine zv_bipush (v := (-3 : Int32)) X dX9_habit_49 zbp_m3 ?_
          refine zb e (fun q10 gq10 e => ?_)
          refine zv_callV (stk := [.int (-3 : Int32), .ref 0]) (as := [.int (-3 : Int32)]) (st := []) (k := 0) X zl_RX9_224 zm_X9_refusedLong (k_X9_refusedLong (d := d - 1) (by omega) gq10) (by omega) zb_0 (by rw [zk_0]; rfl) rfl rfl (Nat.le_of_ble_eq_true rfl) (Nat.le_refl _) rfl dX9_habit_51 ?_
          show J 54 [(0, .ref 0), (1, .int a1), (2, .int a2)] [.long q10.1] 117 zRF q10.2
          exact zv_retL X e rfl dX9_habit_54
      · replace e := zif e c4
        exact zv_pick X [0] rfl (k_X9_habit_L23 q hd X  _ e)
  · replace e := zit e c2
    refine zv_aload_n X dX9_habit_8 rfl rfl ?_
    refine zv_iconst (v := (-1 : Int32)) X dX9_habit_9 zic_m1 ?_
    refine zb e (fun q11 gq11 e => ?_)
    refine zv_callV (stk := [.int (-1 : Int32), .ref 0]) (as := [.int (-1 : Int32)]) (st := []) (k := 0) X zl_RX9_224 zm_X9_refusedLong (k_X9_refusedLong (d := d - 1) (by omega) gq11) (by omega) zb_0 (by rw [zk_0]; rfl) rfl rfl (Nat.le_of_ble_eq_true rfl) (Nat.le_refl _) rfl dX9_habit_10 ?_
    show J 13 [(0, .ref 0), (1, .int a1), (2, .int a2)] [.long q11.1] 117 zRF q11.2
    exact zv_retL X e rfl dX9_habit_13
-- X10_refuseFar
def s_X10_refuseFar (a1 : Int32) (h : zHp) : Option (Int64 × zHp) :=
  (some (-a1)).bind fun v1 =>
  (zri h 88 8 v1).bind fun v2 =>
  (zui h 88 8 v1 (v2 + (1 : Int32))).bind fun h3 =>
  some ((4000000000000000000 : Int64) - a1.toInt64, h3)
set_option maxRecDepth 100000 in
set_option maxHeartbeats 4000000 in
theorem k_X10_refuseFar {l : Launch} {D : va_G} {cy : Nat → ClassId} {S0 d : Nat} (hd : 0 ≤ d) {a1 : Int32} {h : zHp} {q : (Int64 × zHp)} (e : s_X10_refuseFar a1 h = some q) : zCT l D cy S0 d yX10_refuseFar cX10_refuseFar 2 (some .long) [.ref 67, .int a1] 117 zRF h (some (.long q.1)) 117 zRF q.2 := by
  unfold s_X10_refuseFar at e
  refine zCT_of RX10 rfl zm_X10_refuseFar (Nat.le_refl _) (Nat.le_of_ble_eq_true rfl) (fun J X => ?_)
  show J 0 [(0, .ref 67), (1, .int a1)] [] 117 zRF h
  refine zv_aload_n X dX10_refuseFar_0 rfl rfl ?_
  refine zv_getR X zf_RX10_71 znt_a zk_67 zb_67 zr_67_24 dX10_refuseFar_1 ?_
  refine zv_iload_n X dX10_refuseFar_4 rfl rfl ?_
  refine zv_ineg X dX10_refuseFar_5 ?_
  refine zb e (fun v1 gv1 e => ?_)
  refine zv_nmI X gv1 ?_
  refine zv_dup2 X dX10_refuseFar_6 ?_
  refine zb e (fun v2 gv2 e => ?_)
  refine zv_iald X zk_88 zl_88 zb_88 dX10_refuseFar_7 gv2 ?_
  refine zv_iconst (v := (1 : Int32)) X dX10_refuseFar_8 zic_1 ?_
  refine zv_iadd X dX10_refuseFar_9 ?_
  refine zb e (fun h3 gh3 e => ?_)
  refine zv_iast X zk_88 zl_88 zb_88 dX10_refuseFar_10 gh3 ?_
  refine zv_ldc2 (v := (4000000000000000000 : Int64)) X zc_RX10_163 dX10_refuseFar_11 ?_
  refine zv_iload_n X dX10_refuseFar_14 rfl rfl ?_
  refine zv_i2l X dX10_refuseFar_15 ?_
  refine zv_lsub X dX10_refuseFar_16 ?_
  exact zv_retL X e rfl dX10_refuseFar_17

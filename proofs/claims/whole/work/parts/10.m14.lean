-- X4_openDays
def s_X4_openDays_L63 (k9 : Int32 → Int32 → Int32 → Int32 → Int32 → zHp → Option (Int32 × zHp)) (a1 : Int32) (a3 : Int32) (a4 : Int32) (a6 : Int32) (a7 : Int32) (h : zHp) : Option (Int32 × zHp) :=
  k9 a1 a3 a4 a7 (a6 + (1 : Int32)) h
def s_X4_openDays_L73 (a4 : Int32) (h : zHp) : Option (Int32 × zHp) :=
  some (a4, h)
def s_X4_openDays_L9 : Nat → Int32 → Int32 → Int32 → Int32 → Int32 → zHp → Option (Int32 × zHp)
  | 0, _, _, _, _, _, _ => none
  | f + 1, a1, a3, a4, a5, a6, h =>
  if (16 : Int32) < a6 then
    s_X4_openDays_L73 a4 h
  else
    if a3 < a5 then
      s_X4_openDays_L73 a4 h
    else
      (s_X4_shutPast a1 a5 h).bind fun q3 =>
      if q3.1 = a5 then
        (s_X4_nextShut a1 a5 q3.2).bind fun q5 =>
        (s_J9_min_7cf53 (a3 + (1 : Int32)) q5.1 q5.2).bind fun q6 =>
        (some (a4 + (q6.1 - a5))).bind fun v7 =>
        s_X4_openDays_L63 (s_X4_openDays_L9 f) a1 a3 v7 a6 q6.1 q6.2
      else
        s_X4_openDays_L63 (s_X4_openDays_L9 f) a1 a3 a4 a6 q3.1 q3.2
def s_X4_openDays (a1 : Int32) (a2 : Int32) (a3 : Int32) (h : zHp) : Option (Int32 × zHp) :=
  s_X4_openDays_L9 zFU a1 a3 (0 : Int32) a2 (0 : Int32) h
set_option maxRecDepth 100000 in
set_option maxHeartbeats 4000000 in
theorem k_X4_openDays_L63 {l : Launch} {D : va_G} {cy : Nat → ClassId} {S0 d : Nat} {J : zJ} (q : (Int32 × zHp)) (hd : 1 ≤ d) (X : zOK l D cy S0 d RX4 cX4_openDays 8 (yX4_openDays.name == "<init>") 117 117 (some .int) (zRT 117 zRF (some (.int q.1)) q.2) J) {k9 : Int32 → Int32 → Int32 → Int32 → Int32 → zHp → Option (Int32 × zHp)} (hk9 : ∀ (a1 : Int32) (a3 : Int32) (a4 : Int32) (a5 : Int32) (a6 : Int32) (h : zHp), k9 a1 a3 a4 a5 a6 h = some q → J 9 [(0, .ref 13), (1, .int a1), (3, .int a3), (4, .int a4), (5, .int a5), (6, .int a6)] [] 117 zRF h) : ∀ (a1 : Int32) (a3 : Int32) (a4 : Int32) (a6 : Int32) (a7 : Int32) (h : zHp), s_X4_openDays_L63 k9 a1 a3 a4 a6 a7 h = some q → J 63 [(0, .ref 13), (1, .int a1), (3, .int a3), (4, .int a4), (6, .int a6), (7, .int a7)] [] 117 zRF h := by
  intro a1 a3 a4 a6 a7 h e
  unfold s_X4_openDays_L63 at e
  refine zv_iload X dX4_openDays_63 rfl ?_
  refine zv_istore (i := 5) (lv' := [(5, .int a7), (0, .ref 13), (1, .int a1), (3, .int a3), (4, .int a4), (6, .int a6), (7, .int a7)]) X dX4_openDays_65 (Nat.le_of_ble_eq_true rfl) rfl ?_
  refine zv_iinc (k := 5) (v := a6 + (1 : Int32)) (lv' := [(6, .int (a6 + (1 : Int32))), (5, .int a7), (0, .ref 13), (1, .int a1), (3, .int a3), (4, .int a4), (7, .int a7)]) X dX4_openDays_67 rfl rfl (Nat.le_of_ble_eq_true rfl) rfl ?_
  refine zv_goto (tgt := 9) X dX4_openDays_70 (by decide) ?_
  exact zv_pick X [2, 3, 4, 5, 1, 0] rfl (hk9 _ _ _ _ _ _ e)
set_option maxRecDepth 100000 in
set_option maxHeartbeats 4000000 in
theorem k_X4_openDays_L73 {l : Launch} {D : va_G} {cy : Nat → ClassId} {S0 d : Nat} {J : zJ} (q : (Int32 × zHp)) (hd : 1 ≤ d) (X : zOK l D cy S0 d RX4 cX4_openDays 8 (yX4_openDays.name == "<init>") 117 117 (some .int) (zRT 117 zRF (some (.int q.1)) q.2) J) : ∀ (a4 : Int32) (h : zHp), s_X4_openDays_L73 a4 h = some q → J 73 [(4, .int a4)] [] 117 zRF h := by
  intro a4 h e
  unfold s_X4_openDays_L73 at e
  refine zv_iload X dX4_openDays_73 rfl ?_
  exact zv_retI X e rfl dX4_openDays_75
set_option maxRecDepth 100000 in
set_option maxHeartbeats 4000000 in
theorem k_X4_openDays_L9 {l : Launch} {D : va_G} {cy : Nat → ClassId} {S0 d : Nat} {J : zJ} (q : (Int32 × zHp)) (hd : 1 ≤ d) (X : zOK l D cy S0 d RX4 cX4_openDays 8 (yX4_openDays.name == "<init>") 117 117 (some .int) (zRT 117 zRF (some (.int q.1)) q.2) J) : ∀ (f : Nat) (a1 : Int32) (a3 : Int32) (a4 : Int32) (a5 : Int32) (a6 : Int32) (h : zHp), s_X4_openDays_L9 f a1 a3 a4 a5 a6 h = some q → J 9 [(0, .ref 13), (1, .int a1), (3, .int a3), (4, .int a4), (5, .int a5), (6, .int a6)] [] 117 zRF h := by
  intro f
  induction f with
  | zero => intro _ _ _ _ _ h e; exact absurd e (fun z => by cases z)
  | succ f ih =>
    intro a1 a3 a4 a5 a6 h e
    rw [s_X4_openDays_L9] at e
    refine zv_iload X dX4_openDays_9 rfl ?_
    refine zv_bipush (v := (16 : Int32)) X dX4_openDays_11 zbp_16 ?_
    refine zv_icmp_gt (tgt := 73) X dX4_openDays_13 (by decide) (fun c1 => ?_) (fun c1 => ?_)
    · replace e := zit e c1
      exact zv_pick X [3] rfl (k_X4_openDays_L73 q hd X _ _ e)
    · replace e := zif e c1
      refine zv_iload X dX4_openDays_16 rfl ?_
      refine zv_iload_n X dX4_openDays_18 rfl rfl ?_
      refine zv_icmp_gt (tgt := 73) X dX4_openDays_19 (by decide) (fun c2 => ?_) (fun c2 => ?_)
      · replace e := zit e c2
        exact zv_pick X [3] rfl (k_X4_openDays_L73 q hd X _ _ e)
      · replace e := zif e c2
        refine zv_aload_n X dX4_openDays_22 rfl rfl ?_
        refine zv_iload_n X dX4_openDays_23 rfl rfl ?_
        refine zv_iload X dX4_openDays_24 rfl ?_
        refine zb e (fun q3 gq3 e => ?_)
        refine zv_callV (stk := [.int a5, .int a1, .ref 13]) (as := [.int a1, .int a5]) (st := []) (k := 13) X zl_RX4_47 zm_X4_shutPast (k_X4_shutPast (d := d - 1) (by omega) gq3) (by omega) zb_13 (by rw [zk_13]; rfl) rfl rfl (Nat.le_of_ble_eq_true rfl) (Nat.le_refl _) rfl dX4_openDays_26 ?_
        show J 29 [(0, .ref 13), (1, .int a1), (3, .int a3), (4, .int a4), (5, .int a5), (6, .int a6)] [.int q3.1] 117 zRF q3.2
        refine zv_istore (i := 7) (lv' := [(7, .int q3.1), (0, .ref 13), (1, .int a1), (3, .int a3), (4, .int a4), (5, .int a5), (6, .int a6)]) X dX4_openDays_29 (Nat.le_of_ble_eq_true rfl) rfl ?_
        refine zv_iload X dX4_openDays_31 rfl ?_
        refine zv_iload X dX4_openDays_33 rfl ?_
        refine zv_icmp_ne (tgt := 63) X dX4_openDays_35 (by decide) (fun c4 => ?_) (fun c4 => ?_)
        · replace e := zif e c4
          exact zv_pick X [1, 2, 3, 4, 6, 0] rfl (k_X4_openDays_L63 q hd X ih _ _ _ _ _ _ e)
        · replace e := zit e c4
          refine zv_iload_n X dX4_openDays_38 rfl rfl ?_
          refine zv_iconst (v := (1 : Int32)) X dX4_openDays_39 zic_1 ?_
          refine zv_iadd X dX4_openDays_40 ?_
          refine zv_aload_n X dX4_openDays_41 rfl rfl ?_
          refine zv_iload_n X dX4_openDays_42 rfl rfl ?_
          refine zv_iload X dX4_openDays_43 rfl ?_
          refine zb e (fun q5 gq5 e => ?_)
          refine zv_callV (stk := [.int a5, .int a1, .ref 13, .int (a3 + (1 : Int32))]) (as := [.int a1, .int a5]) (st := [.int (a3 + (1 : Int32))]) (k := 13) X zl_RX4_51 zm_X4_nextShut (k_X4_nextShut (d := d - 1) (by omega) gq5) (by omega) zb_13 (by rw [zk_13]; rfl) rfl rfl (Nat.le_of_ble_eq_true rfl) (Nat.le_refl _) rfl dX4_openDays_45 ?_
          show J 48 [(7, .int q3.1), (0, .ref 13), (1, .int a1), (3, .int a3), (4, .int a4), (5, .int a5), (6, .int a6)] [.int q5.1, .int (a3 + (1 : Int32))] 117 zRF q5.2
          refine zb e (fun q6 gq6 e => ?_)
          refine zv_callS (stk := [.int q5.1, .int (a3 + (1 : Int32))]) (as := [.int (a3 + (1 : Int32)), .int q5.1]) (st := []) X zl_RX4_54 zm_J9_min_7cf53 (k_J9_min_7cf53 (d := d - 1) (by omega) gq6) (by omega) rfl (Nat.le_of_ble_eq_true rfl) (Nat.le_refl _) rfl dX4_openDays_48 ?_
          show J 51 [(7, .int q3.1), (0, .ref 13), (1, .int a1), (3, .int a3), (4, .int a4), (5, .int a5), (6, .int a6)] [.int q6.1] 117 zRF q6.2
          refine zv_istore (i := 7) (lv' := [(7, .int q6.1), (0, .ref 13), (1, .int a1), (3, .int a3), (4, .int a4), (5, .int a5), (6, .int a6)]) X dX4_openDays_51 (Nat.le_of_ble_eq_true rfl) rfl ?_
          refine zv_iload X dX4_openDays_53 rfl ?_
          refine zv_iload X dX4_openDays_55 rfl ?_
          refine zv_iload X dX4_openDays_57 rfl ?_
          refine zv_isub X dX4_openDays_59 ?_
          refine zv_iadd X dX4_openDays_60 ?_
          refine zb e (fun v7 gv7 e => ?_)
          refine zv_nmI X gv7 ?_
          refine zv_istore (i := 4) (lv' := [(4, .int v7), (7, .int q6.1), (0, .ref 13), (1, .int a1), (3, .int a3), (5, .int a5), (6, .int a6)]) X dX4_openDays_61 (Nat.le_of_ble_eq_true rfl) rfl ?_
          exact zv_pick X [2, 3, 4, 0, 6, 1] rfl (k_X4_openDays_L63 q hd X ih _ _ _ _ _ _ e)
set_option maxRecDepth 100000 in
set_option maxHeartbeats 4000000 in
theorem k_X4_openDays {l : Launch} {D : va_G} {cy : Nat → ClassId} {S0 d : Nat} (hd : 1 ≤ d) {a1 : Int32} {a2 : Int32} {a3 : Int32} {h : zHp} {q : (Int32 × zHp)} (e : s_X4_openDays a1 a2 a3 h = some q) : zCT l D cy S0 d yX4_openDays cX4_openDays 8 (some .int) [.ref 13, .int a1, .int a2, .int a3] 117 zRF h (some (.int q.1)) 117 zRF q.2 := by
  unfold s_X4_openDays at e
  refine zCT_of RX4 rfl zm_X4_openDays (Nat.le_refl _) (Nat.le_of_ble_eq_true rfl) (fun J X => ?_)
  show J 0 [(0, .ref 13), (1, .int a1), (2, .int a2), (3, .int a3)] [] 117 zRF h
  refine zv_iconst (v := (0 : Int32)) X dX4_openDays_0 zic_0 ?_
  refine zv_istore (i := 4) (lv' := [(4, .int (0 : Int32)), (0, .ref 13), (1, .int a1), (2, .int a2), (3, .int a3)]) X dX4_openDays_1 (Nat.le_of_ble_eq_true rfl) rfl ?_
  refine zv_iload_n X dX4_openDays_3 rfl rfl ?_
  refine zv_istore (i := 5) (lv' := [(5, .int a2), (4, .int (0 : Int32)), (0, .ref 13), (1, .int a1), (2, .int a2), (3, .int a3)]) X dX4_openDays_4 (Nat.le_of_ble_eq_true rfl) rfl ?_
  refine zv_iconst (v := (0 : Int32)) X dX4_openDays_6 zic_0 ?_
  refine zv_istore (i := 6) (lv' := [(6, .int (0 : Int32)), (5, .int a2), (4, .int (0 : Int32)), (0, .ref 13), (1, .int a1), (2, .int a2), (3, .int a3)]) X dX4_openDays_7 (Nat.le_of_ble_eq_true rfl) rfl ?_
  exact zv_pick X [3, 4, 6, 2, 1, 0] rfl (k_X4_openDays_L9 q hd X _ _ _ _ _ _ _ e)
-- X1_weightOf
def s_X1_weightOf (a1 : Int32) (a2 : Int32) (h : zHp) : Option (Int32 × zHp) :=
  (zri h 53 20 a1).bind fun v1 =>
  (zri h 56 20 a1).bind fun v2 =>
  (s_X4_isMeant a2 v1 v2 h).bind fun q3 =>
  if q3.1 = 0 then
    some ((0 : Int32), q3.2)
  else
    (zri q3.2 54 20 a1).bind fun v5 =>
    (zri q3.2 55 20 a1).bind fun v6 =>
    (s_X4_openDays a2 v5 v6 q3.2).bind fun q7 =>
    (s_X4_mouthsOf a2 q7.2).bind fun q8 =>
    some (q8.1 * q7.1, q8.2)
set_option maxRecDepth 100000 in
set_option maxHeartbeats 4000000 in
theorem k_X1_weightOf {l : Launch} {D : va_G} {cy : Nat → ClassId} {S0 d : Nat} (hd : 2 ≤ d) {a1 : Int32} {a2 : Int32} {h : zHp} {q : (Int32 × zHp)} (e : s_X1_weightOf a1 a2 h = some q) : zCT l D cy S0 d yX1_weightOf cX1_weightOf 4 (some .int) [.ref 52, .int a1, .int a2] 117 zRF h (some (.int q.1)) 117 zRF q.2 := by
  unfold s_X1_weightOf at e
  refine zCT_of RX1 rfl zm_X1_weightOf (Nat.le_refl _) (Nat.le_of_ble_eq_true rfl) (fun J X => ?_)
  show J 0 [(0, .ref 52), (1, .int a1), (2, .int a2)] [] 117 zRF h
  refine zv_aload_n X dX1_weightOf_0 rfl rfl ?_
  refine zv_getR X zf_RX1_38 znt_o zk_52 zb_52 zr_52_0 dX1_weightOf_1 ?_
  refine zv_iload_n X dX1_weightOf_4 rfl rfl ?_
  refine zv_aload_n X dX1_weightOf_5 rfl rfl ?_
  refine zv_getR X zf_RX1_9 znt_a zk_52 zb_52 zr_52_1 dX1_weightOf_6 ?_
  refine zv_iload_n X dX1_weightOf_9 rfl rfl ?_
  refine zb e (fun v1 gv1 e => ?_)
  refine zv_iald X zk_53 zl_53 zb_53 dX1_weightOf_10 gv1 ?_
  refine zv_aload_n X dX1_weightOf_11 rfl rfl ?_
  refine zv_getR X zf_RX1_21 znt_a zk_52 zb_52 zr_52_4 dX1_weightOf_12 ?_
  refine zv_iload_n X dX1_weightOf_15 rfl rfl ?_
  refine zb e (fun v2 gv2 e => ?_)
  refine zv_iald X zk_56 zl_56 zb_56 dX1_weightOf_16 gv2 ?_
  refine zb e (fun q3 gq3 e => ?_)
  refine zv_callV (stk := [.int v2, .int v1, .int a2, .ref 13]) (as := [.int a2, .int v1, .int v2]) (st := []) (k := 13) X zl_RX1_62 zm_X4_isMeant (k_X4_isMeant (d := d - 1) (by omega) gq3) (by omega) zb_13 (by rw [zk_13]; rfl) rfl rfl (Nat.le_of_ble_eq_true rfl) (Nat.le_refl _) rfl dX1_weightOf_17 ?_
  show J 20 [(0, .ref 52), (1, .int a1), (2, .int a2)] [.int q3.1] 117 zRF q3.2
  refine zv_if_ne (tgt := 25) X dX1_weightOf_20 (by decide) (fun c4 => ?_) (fun c4 => ?_)
  · replace e := zif e c4
    refine zv_aload_n X dX1_weightOf_25 rfl rfl ?_
    refine zv_getR X zf_RX1_38 znt_o zk_52 zb_52 zr_52_0 dX1_weightOf_26 ?_
    refine zv_iload_n X dX1_weightOf_29 rfl rfl ?_
    refine zv_aload_n X dX1_weightOf_30 rfl rfl ?_
    refine zv_getR X zf_RX1_15 znt_a zk_52 zb_52 zr_52_2 dX1_weightOf_31 ?_
    refine zv_iload_n X dX1_weightOf_34 rfl rfl ?_
    refine zb e (fun v5 gv5 e => ?_)
    refine zv_iald X zk_54 zl_54 zb_54 dX1_weightOf_35 gv5 ?_
    refine zv_aload_n X dX1_weightOf_36 rfl rfl ?_
    refine zv_getR X zf_RX1_18 znt_a zk_52 zb_52 zr_52_3 dX1_weightOf_37 ?_
    refine zv_iload_n X dX1_weightOf_40 rfl rfl ?_
    refine zb e (fun v6 gv6 e => ?_)
    refine zv_iald X zk_55 zl_55 zb_55 dX1_weightOf_41 gv6 ?_
    refine zb e (fun q7 gq7 e => ?_)
    refine zv_callV (stk := [.int v6, .int v5, .int a2, .ref 13]) (as := [.int a2, .int v5, .int v6]) (st := []) (k := 13) X zl_RX1_66 zm_X4_openDays (k_X4_openDays (d := d - 1) (by omega) gq7) (by omega) zb_13 (by rw [zk_13]; rfl) rfl rfl (Nat.le_of_ble_eq_true rfl) (Nat.le_refl _) rfl dX1_weightOf_42 ?_
    show J 45 [(0, .ref 52), (1, .int a1), (2, .int a2)] [.int q7.1] 117 zRF q7.2
    refine zv_istore_n (i := 3) (lv' := [(3, .int q7.1), (0, .ref 52), (1, .int a1), (2, .int a2)]) X dX1_weightOf_45 rfl (Nat.le_of_ble_eq_true rfl) rfl ?_
    refine zv_aload_n X dX1_weightOf_46 rfl rfl ?_
    refine zv_getR X zf_RX1_38 znt_o zk_52 zb_52 zr_52_0 dX1_weightOf_47 ?_
    refine zv_iload_n X dX1_weightOf_50 rfl rfl ?_
    refine zb e (fun q8 gq8 e => ?_)
    refine zv_callV (stk := [.int a2, .ref 13]) (as := [.int a2]) (st := []) (k := 13) X zl_RX1_70 zm_X4_mouthsOf (k_X4_mouthsOf (d := d - 1) (by omega) gq8) (by omega) zb_13 (by rw [zk_13]; rfl) rfl rfl (Nat.le_of_ble_eq_true rfl) (Nat.le_refl _) rfl dX1_weightOf_51 ?_
    show J 54 [(3, .int q7.1), (0, .ref 52), (1, .int a1), (2, .int a2)] [.int q8.1] 117 zRF q8.2
    refine zv_iload_n X dX1_weightOf_54 rfl rfl ?_
    refine zv_imul X dX1_weightOf_55 ?_
    exact zv_retI X e rfl dX1_weightOf_56
  · replace e := zit e c4
    refine zv_iconst (v := (0 : Int32)) X dX1_weightOf_23 zic_0 ?_
    exact zv_retI X e rfl dX1_weightOf_24
-- X1_weighAll
def s_X1_weighAll_L4 : Nat → Int32 → Int32 → Int32 → zHp → Option (Int32 × zHp)
  | 0, _, _, _, _ => none
  | f + 1, a1, a2, a3, h =>
  (s_X4_size h).bind fun q1 =>
  if q1.1 ≤ a3 then
    some (a2, q1.2)
  else
    (s_X1_weightOf a1 a3 q1.2).bind fun q3 =>
    (zui q3.2 57 20 a3 q3.1).bind fun h4 =>
    (zri h4 57 20 a3).bind fun v5 =>
    (some (a2 + v5)).bind fun v6 =>
    s_X1_weighAll_L4 f a1 v6 (a3 + (1 : Int32)) h4
def s_X1_weighAll (a1 : Int32) (h : zHp) : Option (Int32 × zHp) :=
  s_X1_weighAll_L4 zFU a1 (0 : Int32) (0 : Int32) h
set_option maxRecDepth 100000 in
set_option maxHeartbeats 4000000 in
theorem k_X1_weighAll_L4 {l : Launch} {D : va_G} {cy : Nat → ClassId} {S0 d : Nat} {J : zJ} (q : (Int32 × zHp)) (hd : 3 ≤ d) (X : zOK l D cy S0 d RX1 cX1_weighAll 4 (yX1_weighAll.name == "<init>") 117 117 (some .int) (zRT 117 zRF (some (.int q.1)) q.2) J) : ∀ (f : Nat) (a1 : Int32) (a2 : Int32) (a3 : Int32) (h : zHp), s_X1_weighAll_L4 f a1 a2 a3 h = some q → J 4 [(0, .ref 52), (1, .int a1), (2, .int a2), (3, .int a3)] [] 117 zRF h := by
  intro f
  induction f with
  | zero => intro _ _ _ h e; exact absurd e (fun z => by cases z)
  | succ f ih =>
    intro a1 a2 a3 h e
    rw [s_X1_weighAll_L4] at e
    refine zv_iload_n X dX1_weighAll_4 rfl rfl ?_
    refine zv_aload_n X dX1_weighAll_5 rfl rfl ?_
    refine zv_getR X zf_RX1_38 znt_o zk_52 zb_52 zr_52_0 dX1_weighAll_6 ?_
    refine zb e (fun q1 gq1 e => ?_)
    refine zv_callV (stk := [.ref 13, .int a3]) (as := []) (st := [.int a3]) (k := 13) X zl_RX1_50 zm_X4_size (k_X4_size (d := d - 1) (by omega) gq1) (by omega) zb_13 (by rw [zk_13]; rfl) rfl rfl (Nat.le_of_ble_eq_true rfl) (Nat.le_refl _) rfl dX1_weighAll_9 ?_
    show J 12 [(0, .ref 52), (1, .int a1), (2, .int a2), (3, .int a3)] [.int q1.1, .int a3] 117 zRF q1.2
    refine zv_icmp_ge (tgt := 42) X dX1_weighAll_12 (by decide) (fun c2 => ?_) (fun c2 => ?_)
    · replace e := zit e c2
      refine zv_iload_n X dX1_weighAll_42 rfl rfl ?_
      exact zv_retI X e rfl dX1_weighAll_43
    · replace e := zif e c2
      refine zv_aload_n X dX1_weighAll_15 rfl rfl ?_
      refine zv_getR X zf_RX1_24 znt_a zk_52 zb_52 zr_52_5 dX1_weighAll_16 ?_
      refine zv_iload_n X dX1_weighAll_19 rfl rfl ?_
      refine zv_aload_n X dX1_weighAll_20 rfl rfl ?_
      refine zv_iload_n X dX1_weighAll_21 rfl rfl ?_
      refine zv_iload_n X dX1_weighAll_22 rfl rfl ?_
      refine zb e (fun q3 gq3 e => ?_)
      refine zv_callV (stk := [.int a3, .int a1, .ref 52, .int a3, .ref 57]) (as := [.int a1, .int a3]) (st := [.int a3, .ref 57]) (k := 52) X zl_RX1_58 zm_X1_weightOf (k_X1_weightOf (d := d - 1) (by omega) gq3) (by omega) zb_52 (by rw [zk_52]; rfl) rfl rfl (Nat.le_of_ble_eq_true rfl) (Nat.le_refl _) rfl dX1_weighAll_23 ?_
      show J 26 [(0, .ref 52), (1, .int a1), (2, .int a2), (3, .int a3)] [.int q3.1, .int a3, .ref 57] 117 zRF q3.2
      refine zb e (fun h4 gh4 e => ?_)
      refine zv_iast X zk_57 zl_57 zb_57 dX1_weighAll_26 gh4 ?_
      refine zv_iload_n X dX1_weighAll_27 rfl rfl ?_
      refine zv_aload_n X dX1_weighAll_28 rfl rfl ?_
      refine zv_getR X zf_RX1_24 znt_a zk_52 zb_52 zr_52_5 dX1_weighAll_29 ?_
      refine zv_iload_n X dX1_weighAll_32 rfl rfl ?_
      refine zb e (fun v5 gv5 e => ?_)
      refine zv_iald X zk_57 zl_57 zb_57 dX1_weighAll_33 gv5 ?_
      refine zv_iadd X dX1_weighAll_34 ?_
      refine zb e (fun v6 gv6 e => ?_)
      refine zv_nmI X gv6 ?_
      refine zv_istore_n (i := 2) (lv' := [(2, .int v6), (0, .ref 52), (1, .int a1), (3, .int a3)]) X dX1_weighAll_35 rfl (Nat.le_of_ble_eq_true rfl) rfl ?_
      refine zv_iinc (k := 3) (v := a3 + (1 : Int32)) (lv' := [(3, .int (a3 + (1 : Int32))), (2, .int v6), (0, .ref 52), (1, .int a1)]) X dX1_weighAll_36 rfl rfl (Nat.le_of_ble_eq_true rfl) rfl ?_
      refine zv_goto (tgt := 4) X dX1_weighAll_39 (by decide) ?_
      exact zv_pick X [2, 3, 1, 0] rfl (ih _ _ _ _ e)
set_option maxRecDepth 100000 in
set_option maxHeartbeats 4000000 in
theorem k_X1_weighAll {l : Launch} {D : va_G} {cy : Nat → ClassId} {S0 d : Nat} (hd : 3 ≤ d) {a1 : Int32} {h : zHp} {q : (Int32 × zHp)} (e : s_X1_weighAll a1 h = some q) : zCT l D cy S0 d yX1_weighAll cX1_weighAll 4 (some .int) [.ref 52, .int a1] 117 zRF h (some (.int q.1)) 117 zRF q.2 := by
  unfold s_X1_weighAll at e
  refine zCT_of RX1 rfl zm_X1_weighAll (Nat.le_refl _) (Nat.le_of_ble_eq_true rfl) (fun J X => ?_)
  show J 0 [(0, .ref 52), (1, .int a1)] [] 117 zRF h
  refine zv_iconst (v := (0 : Int32)) X dX1_weighAll_0 zic_0 ?_
  refine zv_istore_n (i := 2) (lv' := [(2, .int (0 : Int32)), (0, .ref 52), (1, .int a1)]) X dX1_weighAll_1 rfl (Nat.le_of_ble_eq_true rfl) rfl ?_
  refine zv_iconst (v := (0 : Int32)) X dX1_weighAll_2 zic_0 ?_
  refine zv_istore_n (i := 3) (lv' := [(3, .int (0 : Int32)), (2, .int (0 : Int32)), (0, .ref 52), (1, .int a1)]) X dX1_weighAll_3 rfl (Nat.le_of_ble_eq_true rfl) rfl ?_
  exact zv_pick X [2, 3, 1, 0] rfl (k_X1_weighAll_L4 q hd X _ _ _ _ _ e)
-- X2_put_58
def s_X2_put_58_L49  (h : zHp) : Option zHp :=
  some h
def s_X2_put_58 (a1 : Int64) (a3 : Int64) (h : zHp) : Option zHp :=
  (zpl h 58 0 (0 : Int64)).bind fun h1 =>
  (zpl h1 58 1 (1 : Int64)).bind fun h2 =>
  (s_J9_abs_067f4 a1 h2).bind fun q3 =>
  (s_X2_commonDivisor q3.1 a3 q3.2).bind fun q4 =>
  if a3 ≤ (0 : Int64) then
    s_X2_put_58_L49 q4.2
  else
    if q4.1 ≤ (0 : Int64) then
      s_X2_put_58_L49 q4.2
    else
      (zldiv a1 q4.1).bind fun v7 =>
      (zpl q4.2 58 0 v7).bind fun h8 =>
      (zldiv a3 q4.1).bind fun v9 =>
      (zpl h8 58 1 v9).bind fun h10 =>
      s_X2_put_58_L49 h10
set_option maxRecDepth 100000 in
set_option maxHeartbeats 4000000 in
theorem k_X2_put_58_L49 {l : Launch} {D : va_G} {cy : Nat → ClassId} {S0 d : Nat} {J : zJ} (q : zHp) (hd : 1 ≤ d) (X : zOK l D cy S0 d RX2 cX2_put 7 (yX2_put.name == "<init>") 117 117 none (zRT 117 zRF none q) J) : ∀  (h : zHp), s_X2_put_58_L49  h = some q → J 49 [] [] 117 zRF h := by
  intro  h e
  unfold s_X2_put_58_L49 at e
  exact zv_retV X e rfl dX2_put_49
set_option maxRecDepth 100000 in
set_option maxHeartbeats 4000000 in
theorem k_X2_put_58 {l : Launch} {D : va_G} {cy : Nat → ClassId} {S0 d : Nat} (hd : 1 ≤ d) {a1 : Int64} {a3 : Int64} {h : zHp} {q : zHp} (e : s_X2_put_58 a1 a3 h = some q) : zCT l D cy S0 d yX2_put cX2_put 7 none [.ref 58, .long a1, .long a3] 117 zRF h none 117 zRF q := by
  unfold s_X2_put_58 at e
  refine zCT_of RX2 rfl zm_X2_put (Nat.le_refl _) (Nat.le_of_ble_eq_true rfl) (fun J X => ?_)
  show J 0 [(0, .ref 58), (1, .long a1), (3, .long a3)] [] 117 zRF h
  refine zv_aload_n X dX2_put_0 rfl rfl ?_
  refine zv_lconst (v := (0 : Int64)) X dX2_put_1 rfl ?_
  refine zb e (fun h1 gh1 e => ?_)
  refine zv_putL' X zf_RX2_7 zk_58 zb_58 dX2_put_2 gh1 ?_
  refine zv_aload_n X dX2_put_5 rfl rfl ?_
  refine zv_lconst (v := (1 : Int64)) X dX2_put_6 rfl ?_
  refine zb e (fun h2 gh2 e => ?_)
  refine zv_putL' X zf_RX2_13 zk_58 zb_58 dX2_put_7 gh2 ?_
  refine zv_lload_n X dX2_put_10 rfl rfl ?_
  refine zb e (fun q3 gq3 e => ?_)
  refine zv_callS (stk := [.long a1]) (as := [.long a1]) (st := []) X zl_RX2_16 zm_J9_abs_067f4 (k_J9_abs_067f4 (d := d - 1) (by omega) gq3) (by omega) rfl (Nat.le_of_ble_eq_true rfl) (Nat.le_refl _) rfl dX2_put_11 ?_
  show J 14 [(0, .ref 58), (1, .long a1), (3, .long a3)] [.long q3.1] 117 zRF q3.2
  refine zv_lload_n X dX2_put_14 rfl rfl ?_
  refine zb e (fun q4 gq4 e => ?_)
  refine zv_callS (stk := [.long a3, .long q3.1]) (as := [.long q3.1, .long a3]) (st := []) X zl_RX2_22 zm_X2_commonDivisor (k_X2_commonDivisor (d := d - 1) (by omega) gq4) (by omega) rfl (Nat.le_of_ble_eq_true rfl) (Nat.le_refl _) rfl dX2_put_15 ?_
  show J 18 [(0, .ref 58), (1, .long a1), (3, .long a3)] [.long q4.1] 117 zRF q4.2
  refine zv_lstore (i := 5) (lv' := [(5, .long q4.1), (0, .ref 58), (1, .long a1), (3, .long a3)]) X dX2_put_18 (Nat.le_of_ble_eq_true rfl) rfl ?_
  refine zv_lload_n X dX2_put_20 rfl rfl ?_
  refine zv_lconst (v := (0 : Int64)) X dX2_put_21 rfl ?_
  refine zv_lcmp_le (tgt := 49) (pc2 := 26) X dX2_put_22 rfl dX2_put_23 (by decide) rfl (fun c5 => ?_) (fun c5 => ?_)
  · replace e := zit e c5
    exact zv_pick X [] rfl (k_X2_put_58_L49 q hd X  _ e)
  · replace e := zif e c5
    refine zv_lload X dX2_put_26 rfl ?_
    refine zv_lconst (v := (0 : Int64)) X dX2_put_28 rfl ?_
    refine zv_lcmp_le (tgt := 49) (pc2 := 33) X dX2_put_29 rfl dX2_put_30 (by decide) rfl (fun c6 => ?_) (fun c6 => ?_)
    · replace e := zit e c6
      exact zv_pick X [] rfl (k_X2_put_58_L49 q hd X  _ e)
    · replace e := zif e c6
      refine zv_aload_n X dX2_put_33 rfl rfl ?_
      refine zv_lload_n X dX2_put_34 rfl rfl ?_
      refine zv_lload X dX2_put_35 rfl ?_
      refine zb e (fun v7 gv7 e => ?_)
      refine zv_ldiv X dX2_put_37 gv7 ?_
      refine zb e (fun h8 gh8 e => ?_)
      refine zv_putL' X zf_RX2_7 zk_58 zb_58 dX2_put_38 gh8 ?_
      refine zv_aload_n X dX2_put_41 rfl rfl ?_
      refine zv_lload_n X dX2_put_42 rfl rfl ?_
      refine zv_lload X dX2_put_43 rfl ?_
      refine zb e (fun v9 gv9 e => ?_)
      refine zv_ldiv X dX2_put_45 gv9 ?_
      refine zb e (fun h10 gh10 e => ?_)
      refine zv_putL' X zf_RX2_13 zk_58 zb_58 dX2_put_46 gh10 ?_
      exact zv_pick X [] rfl (k_X2_put_58_L49 q hd X  _ e)
-- X1_shareOf
def s_X1_shareOf (a1 : Int32) (a2 : Int32) (h : zHp) : Option zHp :=
  (s_X1_weighAll a1 h).bind fun q1 =>
  (zri q1.2 57 20 a2).bind fun v2 =>
  (s_X2_put_58 v2.toInt64 q1.1.toInt64 q1.2).bind fun q3 =>
  some q3
set_option maxRecDepth 100000 in
set_option maxHeartbeats 4000000 in
theorem k_X1_shareOf {l : Launch} {D : va_G} {cy : Nat → ClassId} {S0 d : Nat} (hd : 4 ≤ d) {a1 : Int32} {a2 : Int32} {h : zHp} {q : zHp} (e : s_X1_shareOf a1 a2 h = some q) : zCT l D cy S0 d yX1_shareOf cX1_shareOf 4 (some (.object "DoorStars$Fraction")) [.ref 52, .int a1, .int a2] 117 zRF h (some (.ref 58)) 117 zRF q := by
  unfold s_X1_shareOf at e
  refine zCT_of RX1 rfl zm_X1_shareOf (Nat.le_refl _) (Nat.le_of_ble_eq_true rfl) (fun J X => ?_)
  show J 0 [(0, .ref 52), (1, .int a1), (2, .int a2)] [] 117 zRF h
  refine zv_aload_n X dX1_shareOf_0 rfl rfl ?_
  refine zv_iload_n X dX1_shareOf_1 rfl rfl ?_
  refine zb e (fun q1 gq1 e => ?_)
  refine zv_callV (stk := [.int a1, .ref 52]) (as := [.int a1]) (st := []) (k := 52) X zl_RX1_42 zm_X1_weighAll (k_X1_weighAll (d := d - 1) (by omega) gq1) (by omega) zb_52 (by rw [zk_52]; rfl) rfl rfl (Nat.le_of_ble_eq_true rfl) (Nat.le_refl _) rfl dX1_shareOf_2 ?_
  show J 5 [(0, .ref 52), (1, .int a1), (2, .int a2)] [.int q1.1] 117 zRF q1.2
  refine zv_istore_n (i := 3) (lv' := [(3, .int q1.1), (0, .ref 52), (1, .int a1), (2, .int a2)]) X dX1_shareOf_5 rfl (Nat.le_of_ble_eq_true rfl) rfl ?_
  refine zv_aload_n X dX1_shareOf_6 rfl rfl ?_
  refine zv_getR X zf_RX1_30 znt_o zk_52 zb_52 zr_52_6 dX1_shareOf_7 ?_
  refine zv_aload_n X dX1_shareOf_10 rfl rfl ?_
  refine zv_getR X zf_RX1_24 znt_a zk_52 zb_52 zr_52_5 dX1_shareOf_11 ?_
  refine zv_iload_n X dX1_shareOf_14 rfl rfl ?_
  refine zb e (fun v2 gv2 e => ?_)
  refine zv_iald X zk_57 zl_57 zb_57 dX1_shareOf_15 gv2 ?_
  refine zv_i2l X dX1_shareOf_16 ?_
  refine zv_iload_n X dX1_shareOf_17 rfl rfl ?_
  refine zv_i2l X dX1_shareOf_18 ?_
  refine zb e (fun q3 gq3 e => ?_)
  refine zv_callV (stk := [.long q1.1.toInt64, .long v2.toInt64, .ref 58]) (as := [.long v2.toInt64, .long q1.1.toInt64]) (st := []) (k := 58) X zl_RX1_46 zm_X2_put (k_X2_put_58 (d := d - 1) (by omega) gq3) (by omega) zb_58 (by rw [zk_58]; rfl) rfl rfl (Nat.le_of_ble_eq_true rfl) (Nat.le_refl _) rfl dX1_shareOf_19 ?_
  show J 22 [(3, .int q1.1), (0, .ref 52), (1, .int a1), (2, .int a2)] [] 117 zRF q3
  refine zv_aload_n X dX1_shareOf_22 rfl rfl ?_
  refine zv_getR X zf_RX1_30 znt_o zk_52 zb_52 zr_52_6 dX1_shareOf_23 ?_
  exact zv_retR X e ⟨_, rfl⟩ dX1_shareOf_26
-- X2_piece_58
def s_X2_piece_58_L15 (b0 : Int64) (h : zHp) : Option (Int64 × zHp) :=
  some (b0, h)
def s_X2_piece_58 (a1 : Int32) (h : zHp) : Option (Int64 × zHp) :=
  if a1 = 0 then
    s_X2_piece_58_L15 (h.2 58 0) h
  else
    s_X2_piece_58_L15 (h.2 58 1) h
set_option maxRecDepth 100000 in
set_option maxHeartbeats 4000000 in
theorem k_X2_piece_58_L15 {l : Launch} {D : va_G} {cy : Nat → ClassId} {S0 d : Nat} {J : zJ} (q : (Int64 × zHp)) (hd : 0 ≤ d) (X : zOK l D cy S0 d RX2 cX2_piece 2 (yX2_piece.name == "<init>") 117 117 (some .long) (zRT 117 zRF (some (.long q.1)) q.2) J) : ∀ (b0 : Int64) (h : zHp), s_X2_piece_58_L15 b0 h = some q → J 15 [] [.long b0] 117 zRF h := by
  intro b0 h e
  unfold s_X2_piece_58_L15 at e
  exact zv_retL X e rfl dX2_piece_15
set_option maxRecDepth 100000 in
set_option maxHeartbeats 4000000 in
theorem k_X2_piece_58 {l : Launch} {D : va_G} {cy : Nat → ClassId} {S0 d : Nat} (hd : 0 ≤ d) {a1 : Int32} {h : zHp} {q : (Int64 × zHp)} (e : s_X2_piece_58 a1 h = some q) : zCT l D cy S0 d yX2_piece cX2_piece 2 (some .long) [.ref 58, .int a1] 117 zRF h (some (.long q.1)) 117 zRF q.2 := by
  unfold s_X2_piece_58 at e
  refine zCT_of RX2 rfl zm_X2_piece (Nat.le_refl _) (Nat.le_of_ble_eq_true rfl) (fun J X => ?_)
  show J 0 [(0, .ref 58), (1, .int a1)] [] 117 zRF h
  refine zv_iload_n X dX2_piece_0 rfl rfl ?_
  refine zv_if_ne (tgt := 11) X dX2_piece_1 (by decide) (fun c1 => ?_) (fun c1 => ?_)
  · replace e := zif e c1
    refine zv_aload_n X dX2_piece_11 rfl rfl ?_
    refine zv_getL X zf_RX2_13 zk_58 zb_58 dX2_piece_12 ?_
    exact zv_pick X [] rfl (k_X2_piece_58_L15 q hd X _ _ e)
  · replace e := zit e c1
    refine zv_aload_n X dX2_piece_4 rfl rfl ?_
    refine zv_getL X zf_RX2_7 zk_58 zb_58 dX2_piece_5 ?_
    refine zv_goto (tgt := 15) X dX2_piece_8 (by decide) ?_
    exact zv_pick X [] rfl (k_X2_piece_58_L15 q hd X _ _ e)
-- X9_part
def s_X9_part_L22  (h : zHp) : Option (Int32 × zHp) :=
  (s_X9_refused (-1 : Int32) h).bind fun q1 =>
  some (q1.1, q1.2)
def s_X9_part_L37  (h : zHp) : Option (Int32 × zHp) :=
  (s_X9_refused (-2 : Int32) h).bind fun q1 =>
  some (q1.1, q1.2)
def s_X9_part (a1 : Int32) (a2 : Int32) (a3 : Int32) (h : zHp) : Option (Int32 × zHp) :=
  (s_X1_has a1 h).bind fun q1 =>
  if q1.1 = 0 then
    s_X9_part_L22 q1.2
  else
    (s_X4_has a2 q1.2).bind fun q3 =>
    if q3.1 = 0 then
      s_X9_part_L22 q3.2
    else
      if a3 < 0 then
        s_X9_part_L37 q3.2
      else
        if a3 ≤ (1 : Int32) then
          (s_X1_shareOf a1 a2 q3.2).bind fun q7 =>
          (s_X2_piece_58 a3 q7).bind fun q8 =>
          some (q8.1.toInt32, q8.2)
        else
          s_X9_part_L37 q3.2
set_option maxRecDepth 100000 in
set_option maxHeartbeats 4000000 in
theorem k_X9_part_L22 {l : Launch} {D : va_G} {cy : Nat → ClassId} {S0 d : Nat} {J : zJ} (q : (Int32 × zHp)) (hd : 5 ≤ d) (X : zOK l D cy S0 d RX9 cX9_part 4 (yX9_part.name == "<init>") 117 117 (some .int) (zRT 117 zRF (some (.int q.1)) q.2) J) : ∀  (h : zHp), s_X9_part_L22  h = some q → J 22 [(0, .ref 0)] [] 117 zRF h := by
  intro  h e
  unfold s_X9_part_L22 at e
  refine zv_aload_n X dX9_part_22 rfl rfl ?_
  refine zv_iconst (v := (-1 : Int32)) X dX9_part_23 zic_m1 ?_
  refine zb e (fun q1 gq1 e => ?_)
  refine zv_callV (stk := [.int (-1 : Int32), .ref 0]) (as := [.int (-1 : Int32)]) (st := []) (k := 0) X zl_RX9_108 zm_X9_refused (k_X9_refused (d := d - 1) (by omega) gq1) (by omega) zb_0 (by rw [zk_0]; rfl) rfl rfl (Nat.le_of_ble_eq_true rfl) (Nat.le_refl _) rfl dX9_part_24 ?_
  show J 27 [(0, .ref 0)] [.int q1.1] 117 zRF q1.2
  exact zv_retI X e rfl dX9_part_27
set_option maxRecDepth 100000 in
set_option maxHeartbeats 4000000 in
theorem k_X9_part_L37 {l : Launch} {D : va_G} {cy : Nat → ClassId} {S0 d : Nat} {J : zJ} (q : (Int32 × zHp)) (hd : 5 ≤ d) (X : zOK l D cy S0 d RX9 cX9_part 4 (yX9_part.name == "<init>") 117 117 (some .int) (zRT 117 zRF (some (.int q.1)) q.2) J) : ∀  (h : zHp), s_X9_part_L37  h = some q → J 37 [(0, .ref 0)] [] 117 zRF h := by
  intro  h e
  unfold s_X9_part_L37 at e
  refine zv_aload_n X dX9_part_37 rfl rfl ?_
  refine zv_bipush (v := (-2 : Int32)) X dX9_part_38 zbp_m2 ?_
  refine zb e (fun q1 gq1 e => ?_)
  refine zv_callV (stk := [.int (-2 : Int32), .ref 0]) (as := [.int (-2 : Int32)]) (st := []) (k := 0) X zl_RX9_108 zm_X9_refused (k_X9_refused (d := d - 1) (by omega) gq1) (by omega) zb_0 (by rw [zk_0]; rfl) rfl rfl (Nat.le_of_ble_eq_true rfl) (Nat.le_refl _) rfl dX9_part_40 ?_
  show J 43 [(0, .ref 0)] [.int q1.1] 117 zRF q1.2
  exact zv_retI X e rfl dX9_part_43
set_option maxRecDepth 100000 in
set_option maxHeartbeats 4000000 in
theorem k_X9_part {l : Launch} {D : va_G} {cy : Nat → ClassId} {S0 d : Nat} (hd : 5 ≤ d) {a1 : Int32} {a2 : Int32} {a3 : Int32} {h : zHp} {q : (Int32 × zHp)} (e : s_X9_part a1 a2 a3 h = some q) : zCT l D cy S0 d yX9_part cX9_part 4 (some .int) [.ref 0, .int a1, .int a2, .int a3] 117 zRF h (some (.int q.1)) 117 zRF q.2 := by
  unfold s_X9_part at e
  refine zCT_of RX9 rfl zm_X9_part (Nat.le_refl _) (Nat.le_of_ble_eq_true rfl) (fun J X => ?_)
  show J 0 [(0, .ref 0), (1, .int a1), (2, .int a2), (3, .int a3)] [] 117 zRF h
  refine zv_aload_n X dX9_part_0 rfl rfl ?_
  refine zv_getR X zf_RX9_77 znt_o zk_0 zb_0 zr_0_11 dX9_part_1 ?_
  refine zv_iload_n X dX9_part_4 rfl rfl ?_
  refine zb e (fun q1 gq1 e => ?_)
  refine zv_callV (stk := [.int a1, .ref 52]) (as := [.int a1]) (st := []) (k := 52) X zl_RX9_262 zm_X1_has (k_X1_has (d := d - 1) (by omega) gq1) (by omega) zb_52 (by rw [zk_52]; rfl) rfl rfl (Nat.le_of_ble_eq_true rfl) (Nat.le_refl _) rfl dX9_part_5 ?_
  show J 8 [(0, .ref 0), (1, .int a1), (2, .int a2), (3, .int a3)] [.int q1.1] 117 zRF q1.2
  refine zv_if_eq (tgt := 22) X dX9_part_8 (by decide) (fun c2 => ?_) (fun c2 => ?_)
  · replace e := zit e c2
    exact zv_pick X [0] rfl (k_X9_part_L22 q hd X  _ e)
  · replace e := zif e c2
    refine zv_aload_n X dX9_part_11 rfl rfl ?_
    refine zv_getR X zf_RX9_36 znt_o zk_0 zb_0 zr_0_6 dX9_part_12 ?_
    refine zv_iload_n X dX9_part_15 rfl rfl ?_
    refine zb e (fun q3 gq3 e => ?_)
    refine zv_callV (stk := [.int a2, .ref 13]) (as := [.int a2]) (st := []) (k := 13) X zl_RX9_146 zm_X4_has (k_X4_has (d := d - 1) (by omega) gq3) (by omega) zb_13 (by rw [zk_13]; rfl) rfl rfl (Nat.le_of_ble_eq_true rfl) (Nat.le_refl _) rfl dX9_part_16 ?_
    show J 19 [(0, .ref 0), (1, .int a1), (2, .int a2), (3, .int a3)] [.int q3.1] 117 zRF q3.2
    refine zv_if_ne (tgt := 28) X dX9_part_19 (by decide) (fun c4 => ?_) (fun c4 => ?_)
    · replace e := zif e c4
      refine zv_iload_n X dX9_part_28 rfl rfl ?_
      refine zv_if_lt (tgt := 37) X dX9_part_29 (by decide) (fun c5 => ?_) (fun c5 => ?_)
      · replace e := zit e c5
        exact zv_pick X [0] rfl (k_X9_part_L37 q hd X  _ e)
      · replace e := zif e c5
        refine zv_iload_n X dX9_part_32 rfl rfl ?_
        refine zv_iconst (v := (1 : Int32)) X dX9_part_33 zic_1 ?_
        refine zv_icmp_le (tgt := 44) X dX9_part_34 (by decide) (fun c6 => ?_) (fun c6 => ?_)
        · replace e := zit e c6
          refine zv_aload_n X dX9_part_44 rfl rfl ?_
          refine zv_getR X zf_RX9_77 znt_o zk_0 zb_0 zr_0_11 dX9_part_45 ?_
          refine zv_iload_n X dX9_part_48 rfl rfl ?_
          refine zv_iload_n X dX9_part_49 rfl rfl ?_
          refine zb e (fun q7 gq7 e => ?_)
          refine zv_callV (stk := [.int a2, .int a1, .ref 52]) (as := [.int a1, .int a2]) (st := []) (k := 52) X zl_RX9_263 zm_X1_shareOf (k_X1_shareOf (d := d - 1) (by omega) gq7) (by omega) zb_52 (by rw [zk_52]; rfl) rfl rfl (Nat.le_of_ble_eq_true rfl) (Nat.le_refl _) rfl dX9_part_50 ?_
          show J 53 [(0, .ref 0), (1, .int a1), (2, .int a2), (3, .int a3)] [.ref 58] 117 zRF q7
          refine zv_iload_n X dX9_part_53 rfl rfl ?_
          refine zb e (fun q8 gq8 e => ?_)
          refine zv_callV (stk := [.int a3, .ref 58]) (as := [.int a3]) (st := []) (k := 58) X zl_RX9_238 zm_X2_piece (k_X2_piece_58 (d := d - 1) (by omega) gq8) (by omega) zb_58 (by rw [zk_58]; rfl) rfl rfl (Nat.le_of_ble_eq_true rfl) (Nat.le_refl _) rfl dX9_part_54 ?_
          show J 57 [(0, .ref 0), (1, .int a1), (2, .int a2), (3, .int a3)] [.long q8.1] 117 zRF q8.2
          refine zv_l2i X dX9_part_57 ?_
          exact zv_retI X e rfl dX9_part_58
        · replace e := zif e c6
          exact zv_pick X [0] rfl (k_X9_part_L37 q hd X  _ e)
    · replace e := zit e c4
      exact zv_pick X [0] rfl (k_X9_part_L22 q hd X  _ e)
-- X10_weightOf
def s_X10_weightOf_L33  (h : zHp) : Option (Int32 × zHp) :=
  some ((0 : Int32), h)
def s_X10_weightOf_L115 (k45 : Int32 → Int32 → Int32 → Int32 → zHp → Option (Int32 × zHp)) (k62 : Int32 → Int32 → Int32 → Int32 → Int32 → Int32 → zHp → Option (Int32 × zHp)) (a1 : Int32) (a2 : Int32) (a3 : Int32) (a4 : Int32) (a6 : Int32) (b0 : Int32) (h : zHp) : Option (Int32 × zHp) :=
  k62 a1 a2 a3 a4 b0 (a6 + (1 : Int32)) h
def s_X10_weightOf_L110 (k45 : Int32 → Int32 → Int32 → Int32 → zHp → Option (Int32 × zHp)) (k62 : Int32 → Int32 → Int32 → Int32 → Int32 → Int32 → zHp → Option (Int32 × zHp)) (a1 : Int32) (a2 : Int32) (a3 : Int32) (a4 : Int32) (a6 : Int32) (h : zHp) : Option (Int32 × zHp) :=
  s_X10_weightOf_L115 k45 k62 a1 a2 a3 a4 a6 (1 : Int32) h
def s_X10_weightOf_L134 (k45 : Int32 → Int32 → Int32 → Int32 → zHp → Option (Int32 × zHp)) (a1 : Int32) (a2 : Int32) (a4 : Int32) (b0 : Int32) (b1 : Int32) (h : zHp) : Option (Int32 × zHp) :=
  (some (b0 + b1)).bind fun v1 =>
  k45 a1 a2 v1 (a4 + (1 : Int32)) h
def s_X10_weightOf_L62 (k45 : Int32 → Int32 → Int32 → Int32 → zHp → Option (Int32 × zHp)) : Nat → Int32 → Int32 → Int32 → Int32 → Int32 → Int32 → zHp → Option (Int32 × zHp)
  | 0, _, _, _, _, _, _, _ => none
  | f + 1, a1, a2, a3, a4, a5, a6, h =>
  (zri h 106 20 a2).bind fun v1 =>
  if v1 ≤ a6 then
    if a5 = 0 then
      s_X10_weightOf_L134 k45 a1 a2 a4 a3 (1 : Int32) h
    else
      s_X10_weightOf_L134 k45 a1 a2 a4 a3 (0 : Int32) h
  else
    if a5 = 0 then
      (zri h 107 160 (((8 : Int32) * a2) + a6)).bind fun v5 =>
      (zri h 108 160 (((8 : Int32) * a2) + a6)).bind fun v6 =>
      (s_X10_in a4 v5 v6 h).bind fun q7 =>
      if q7.1 = 0 then
        s_X10_weightOf_L115 k45 (s_X10_weightOf_L62 k45 f) a1 a2 a3 a4 a6 (0 : Int32) q7.2
      else
        s_X10_weightOf_L110 k45 (s_X10_weightOf_L62 k45 f) a1 a2 a3 a4 a6 q7.2
    else
      s_X10_weightOf_L110 k45 (s_X10_weightOf_L62 k45 f) a1 a2 a3 a4 a6 h
def s_X10_weightOf_L45 : Nat → Int32 → Int32 → Int32 → Int32 → zHp → Option (Int32 × zHp)
  | 0, _, _, _, _, _ => none
  | f + 1, a1, a2, a3, a4, h =>
  (zri h 111 20 a1).bind fun v1 =>
  if v1 < a4 then
    (zri h 76 20 a2).bind fun v3 =>
    some (a3 * v3, h)
  else
    s_X10_weightOf_L62 (s_X10_weightOf_L45 f) zFU a1 a2 a3 a4 (0 : Int32) (0 : Int32) h
def s_X10_weightOf (a1 : Int32) (a2 : Int32) (h : zHp) : Option (Int32 × zHp) :=
  (zri h 75 20 a2).bind fun v1 =>
  (zri h 109 20 a1).bind fun v2 =>
  if v1 = v2 then
    (zri h 78 20 a2).bind fun v4 =>
    (zri h 112 20 a1).bind fun v5 =>
    if ((v4 >>> (v5 &&& 31)) &&& (1 : Int32)) = 0 then
      s_X10_weightOf_L33 h
    else
      (zri h 110 20 a1).bind fun v7 =>
      s_X10_weightOf_L45 zFU a1 a2 (0 : Int32) v7 h
  else
    s_X10_weightOf_L33 h
set_option maxRecDepth 100000 in
set_option maxHeartbeats 4000000 in
theorem k_X10_weightOf_L33 {l : Launch} {D : va_G} {cy : Nat → ClassId} {S0 d : Nat} {J : zJ} (q : (Int32 × zHp)) (hd : 1 ≤ d) (X : zOK l D cy S0 d RX10 cX10_weightOf 7 (yX10_weightOf.name == "<init>") 117 117 (some .int) (zRT 117 zRF (some (.int q.1)) q.2) J) : ∀  (h : zHp), s_X10_weightOf_L33  h = some q → J 33 [] [] 117 zRF h := by
  intro  h e
  unfold s_X10_weightOf_L33 at e
  refine zv_iconst (v := (0 : Int32)) X dX10_weightOf_33 zic_0 ?_
  exact zv_retI X e rfl dX10_weightOf_34
set_option maxRecDepth 100000 in
set_option maxHeartbeats 4000000 in
theorem k_X10_weightOf_L115 {l : Launch} {D : va_G} {cy : Nat → ClassId} {S0 d : Nat} {J : zJ} (q : (Int32 × zHp)) (hd : 1 ≤ d) (X : zOK l D cy S0 d RX10 cX10_weightOf 7 (yX10_weightOf.name == "<init>") 117 117 (some .int) (zRT 117 zRF (some (.int q.1)) q.2) J) {k45 : Int32 → Int32 → Int32 → Int32 → zHp → Option (Int32 × zHp)} (hk45 : ∀ (a1 : Int32) (a2 : Int32) (a3 : Int32) (a4 : Int32) (h : zHp), k45 a1 a2 a3 a4 h = some q → J 45 [(0, .ref 67), (1, .int a1), (2, .int a2), (3, .int a3), (4, .int a4)] [] 117 zRF h) {k62 : Int32 → Int32 → Int32 → Int32 → Int32 → Int32 → zHp → Option (Int32 × zHp)} (hk62 : ∀ (a1 : Int32) (a2 : Int32) (a3 : Int32) (a4 : Int32) (a5 : Int32) (a6 : Int32) (h : zHp), k62 a1 a2 a3 a4 a5 a6 h = some q → J 62 [(0, .ref 67), (1, .int a1), (2, .int a2), (3, .int a3), (4, .int a4), (5, .int a5), (6, .int a6)] [] 117 zRF h) : ∀ (a1 : Int32) (a2 : Int32) (a3 : Int32) (a4 : Int32) (a6 : Int32) (b0 : Int32) (h : zHp), s_X10_weightOf_L115 k45 k62 a1 a2 a3 a4 a6 b0 h = some q → J 115 [(0, .ref 67), (1, .int a1), (2, .int a2), (3, .int a3), (4, .int a4), (6, .int a6)] [.int b0] 117 zRF h := by
  intro a1 a2 a3 a4 a6 b0 h e
  unfold s_X10_weightOf_L115 at e
  refine zv_istore (i := 5) (lv' := [(5, .int b0), (0, .ref 67), (1, .int a1), (2, .int a2), (3, .int a3), (4, .int a4), (6, .int a6)]) X dX10_weightOf_115 (Nat.le_of_ble_eq_true rfl) rfl ?_
  refine zv_iinc (k := 6) (v := a6 + (1 : Int32)) (lv' := [(6, .int (a6 + (1 : Int32))), (5, .int b0), (0, .ref 67), (1, .int a1), (2, .int a2), (3, .int a3), (4, .int a4)]) X dX10_weightOf_117 rfl rfl (Nat.le_of_ble_eq_true rfl) rfl ?_
  refine zv_goto (tgt := 62) X dX10_weightOf_120 (by decide) ?_
  exact zv_pick X [2, 3, 4, 5, 6, 1, 0] rfl (hk62 _ _ _ _ _ _ _ e)
set_option maxRecDepth 100000 in
set_option maxHeartbeats 4000000 in
theorem k_X10_weightOf_L110 {l : Launch} {D : va_G} {cy : Nat → ClassId} {S0 d : Nat} {J : zJ} (q : (Int32 × zHp)) (hd : 1 ≤ d) (X : zOK l D cy S0 d RX10 cX10_weightOf 7 (yX10_weightOf.name == "<init>") 117 117 (some .int) (zRT 117 zRF (some (.int q.1)) q.2) J) {k45 : Int32 → Int32 → Int32 → Int32 → zHp → Option (Int32 × zHp)} (hk45 : ∀ (a1 : Int32) (a2 : Int32) (a3 : Int32) (a4 : Int32) (h : zHp), k45 a1 a2 a3 a4 h = some q → J 45 [(0, .ref 67), (1, .int a1), (2, .int a2), (3, .int a3), (4, .int a4)] [] 117 zRF h) {k62 : Int32 → Int32 → Int32 → Int32 → Int32 → Int32 → zHp → Option (Int32 × zHp)} (hk62 : ∀ (a1 : Int32) (a2 : Int32) (a3 : Int32) (a4 : Int32) (a5 : Int32) (a6 : Int32) (h : zHp), k62 a1 a2 a3 a4 a5 a6 h = some q → J 62 [(0, .ref 67), (1, .int a1), (2, .int a2), (3, .int a3), (4, .int a4), (5, .int a5), (6, .int a6)] [] 117 zRF h) : ∀ (a1 : Int32) (a2 : Int32) (a3 : Int32) (a4 : Int32) (a6 : Int32) (h : zHp), s_X10_weightOf_L110 k45 k62 a1 a2 a3 a4 a6 h = some q → J 110 [(0, .ref 67), (1, .int a1), (2, .int a2), (3, .int a3), (4, .int a4), (6, .int a6)] [] 117 zRF h := by
  intro a1 a2 a3 a4 a6 h e
  unfold s_X10_weightOf_L110 at e
  refine zv_iconst (v := (1 : Int32)) X dX10_weightOf_110 zic_1 ?_
  refine zv_goto (tgt := 115) X dX10_weightOf_111 (by decide) ?_
  exact k_X10_weightOf_L115 q hd X hk45 hk62 _ _ _ _ _ _ _ e
set_option maxRecDepth 100000 in
set_option maxHeartbeats 4000000 in
theorem k_X10_weightOf_L134 {l : Launch} {D : va_G} {cy : Nat → ClassId} {S0 d : Nat} {J : zJ} (q : (Int32 × zHp)) (hd : 1 ≤ d) (X : zOK l D cy S0 d RX10 cX10_weightOf 7 (yX10_weightOf.name == "<init>") 117 117 (some .int) (zRT 117 zRF (some (.int q.1)) q.2) J) {k45 : Int32 → Int32 → Int32 → Int32 → zHp → Option (Int32 × zHp)} (hk45 : ∀ (a1 : Int32) (a2 : Int32) (a3 : Int32) (a4 : Int32) (h : zHp), k45 a1 a2 a3 a4 h = some q → J 45 [(0, .ref 67), (1, .int a1), (2, .int a2), (3, .int a3), (4, .int a4)] [] 117 zRF h) : ∀ (a1 : Int32) (a2 : Int32) (a4 : Int32) (b0 : Int32) (b1 : Int32) (h : zHp), s_X10_weightOf_L134 k45 a1 a2 a4 b0 b1 h = some q → J 134 [(0, .ref 67), (1, .int a1), (2, .int a2), (4, .int a4)] [.int b1, .int b0] 117 zRF h := by
  intro a1 a2 a4 b0 b1 h e
  unfold s_X10_weightOf_L134 at e
  refine zv_iadd X dX10_weightOf_134 ?_
  refine zb e (fun v1 gv1 e => ?_)
  refine zv_nmI X gv1 ?_
  refine zv_istore_n (i := 3) (lv' := [(3, .int v1), (0, .ref 67), (1, .int a1), (2, .int a2), (4, .int a4)]) X dX10_weightOf_135 rfl (Nat.le_of_ble_eq_true rfl) rfl ?_
  refine zv_iinc (k := 4) (v := a4 + (1 : Int32)) (lv' := [(4, .int (a4 + (1 : Int32))), (3, .int v1), (0, .ref 67), (1, .int a1), (2, .int a2)]) X dX10_weightOf_136 rfl rfl (Nat.le_of_ble_eq_true rfl) rfl ?_
  refine zv_goto (tgt := 45) X dX10_weightOf_139 (by decide) ?_
  exact zv_pick X [2, 3, 4, 1, 0] rfl (hk45 _ _ _ _ _ e)
set_option maxRecDepth 100000 in
set_option maxHeartbeats 4000000 in
theorem k_X10_weightOf_L62 {l : Launch} {D : va_G} {cy : Nat → ClassId} {S0 d : Nat} {J : zJ} (q : (Int32 × zHp)) (hd : 1 ≤ d) (X : zOK l D cy S0 d RX10 cX10_weightOf 7 (yX10_weightOf.name == "<init>") 117 117 (some .int) (zRT 117 zRF (some (.int q.1)) q.2) J) {k45 : Int32 → Int32 → Int32 → Int32 → zHp → Option (Int32 × zHp)} (hk45 : ∀ (a1 : Int32) (a2 : Int32) (a3 : Int32) (a4 : Int32) (h : zHp), k45 a1 a2 a3 a4 h = some q → J 45 [(0, .ref 67), (1, .int a1), (2, .int a2), (3, .int a3), (4, .int a4)] [] 117 zRF h) : ∀ (f : Nat) (a1 : Int32) (a2 : Int32) (a3 : Int32) (a4 : Int32) (a5 : Int32) (a6 : Int32) (h : zHp), s_X10_weightOf_L62 k45 f a1 a2 a3 a4 a5 a6 h = some q → J 62 [(0, .ref 67), (1, .int a1), (2, .int a2), (3, .int a3), (4, .int a4), (5, .int a5), (6, .int a6)] [] 117 zRF h := by
  intro f
  induction f with
  | zero => intro _ _ _ _ _ _ h e; exact absurd e (fun z => by cases z)
  | succ f ih =>
    intro a1 a2 a3 a4 a5 a6 h e
    rw [s_X10_weightOf_L62] at e
    refine zv_iload X dX10_weightOf_62 rfl ?_
    refine zv_aload_n X dX10_weightOf_64 rfl rfl ?_
    refine zv_getR X zf_RX10_130 znt_a zk_67 zb_67 zr_67_48 dX10_weightOf_65 ?_
    refine zv_iload_n X dX10_weightOf_68 rfl rfl ?_
    refine zb e (fun v1 gv1 e => ?_)
    refine zv_iald X zk_106 zl_106 zb_106 dX10_weightOf_69 gv1 ?_
    refine zv_icmp_ge (tgt := 123) X dX10_weightOf_70 (by decide) (fun c2 => ?_) (fun c2 => ?_)
    · replace e := zit e c2
      refine zv_iload_n X dX10_weightOf_123 rfl rfl ?_
      refine zv_iload X dX10_weightOf_124 rfl ?_
      refine zv_if_eq (tgt := 133) X dX10_weightOf_126 (by decide) (fun c3 => ?_) (fun c3 => ?_)
      · replace e := zit e c3
        refine zv_iconst (v := (1 : Int32)) X dX10_weightOf_133 zic_1 ?_
        exact zv_pick X [0, 1, 2, 4] rfl (k_X10_weightOf_L134 q hd X hk45 _ _ _ _ _ _ e)
      · replace e := zif e c3
        refine zv_iconst (v := (0 : Int32)) X dX10_weightOf_129 zic_0 ?_
        refine zv_goto (tgt := 134) X dX10_weightOf_130 (by decide) ?_
        exact zv_pick X [0, 1, 2, 4] rfl (k_X10_weightOf_L134 q hd X hk45 _ _ _ _ _ _ e)
    · replace e := zif e c2
      refine zv_iload X dX10_weightOf_73 rfl ?_
      refine zv_if_ne (tgt := 110) X dX10_weightOf_75 (by decide) (fun c4 => ?_) (fun c4 => ?_)
      · replace e := zif e c4
        exact zv_pick X [0, 1, 2, 3, 4, 6] rfl (k_X10_weightOf_L110 q hd X hk45 ih _ _ _ _ _ _ e)
      · replace e := zit e c4
        refine zv_iload X dX10_weightOf_78 rfl ?_
        refine zv_aload_n X dX10_weightOf_80 rfl rfl ?_
        refine zv_getR X zf_RX10_133 znt_a zk_67 zb_67 zr_67_49 dX10_weightOf_81 ?_
        refine zv_bipush (v := (8 : Int32)) X dX10_weightOf_84 zbp_8 ?_
        refine zv_iload_n X dX10_weightOf_86 rfl rfl ?_
        refine zv_imul X dX10_weightOf_87 ?_
        refine zv_iload X dX10_weightOf_88 rfl ?_
        refine zv_iadd X dX10_weightOf_90 ?_
        refine zb e (fun v5 gv5 e => ?_)
        refine zv_iald X zk_107 zl_107 zb_107 dX10_weightOf_91 gv5 ?_
        refine zv_aload_n X dX10_weightOf_92 rfl rfl ?_
        refine zv_getR X zf_RX10_136 znt_a zk_67 zb_67 zr_67_50 dX10_weightOf_93 ?_
        refine zv_bipush (v := (8 : Int32)) X dX10_weightOf_96 zbp_8 ?_
        refine zv_iload_n X dX10_weightOf_98 rfl rfl ?_
        refine zv_imul X dX10_weightOf_99 ?_
        refine zv_iload X dX10_weightOf_100 rfl ?_
        refine zv_iadd X dX10_weightOf_102 ?_
        refine zb e (fun v6 gv6 e => ?_)
        refine zv_iald X zk_108 zl_108 zb_108 dX10_weightOf_103 gv6 ?_
        refine zb e (fun q7 gq7 e => ?_)
        refine zv_callS (stk := [.int v6, .int v5, .int a4]) (as := [.int a4, .int v5, .int v6]) (st := []) X zl_RX10_168 zm_X10_in (k_X10_in (d := d - 1) (by omega) gq7) (by omega) rfl (Nat.le_of_ble_eq_true rfl) (Nat.le_refl _) rfl dX10_weightOf_104 ?_
        show J 107 [(0, .ref 67), (1, .int a1), (2, .int a2), (3, .int a3), (4, .int a4), (5, .int a5), (6, .int a6)] [.int q7.1] 117 zRF q7.2
        refine zv_if_eq (tgt := 114) X dX10_weightOf_107 (by decide) (fun c8 => ?_) (fun c8 => ?_)
        · replace e := zit e c8
          refine zv_iconst (v := (0 : Int32)) X dX10_weightOf_114 zic_0 ?_
          exact zv_pick X [0, 1, 2, 3, 4, 6] rfl (k_X10_weightOf_L115 q hd X hk45 ih _ _ _ _ _ _ _ e)
        · replace e := zif e c8
          exact zv_pick X [0, 1, 2, 3, 4, 6] rfl (k_X10_weightOf_L110 q hd X hk45 ih _ _ _ _ _ _ e)
set_option maxRecDepth 100000 in
set_option maxHeartbeats 4000000 in
theorem k_X10_weightOf_L45 {l : Launch} {D : va_G} {cy : Nat → ClassId} {S0 d : Nat} {J : zJ} (q : (Int32 × zHp)) (hd : 1 ≤ d) (X : zOK l D cy S0 d RX10 cX10_weightOf 7 (yX10_weightOf.name == "<init>") 117 117 (some .int) (zRT 117 zRF (some (.int q.1)) q.2) J) : ∀ (f : Nat) (a1 : Int32) (a2 : Int32) (a3 : Int32) (a4 : Int32) (h : zHp), s_X10_weightOf_L45 f a1 a2 a3 a4 h = some q → J 45 [(0, .ref 67), (1, .int a1), (2, .int a2), (3, .int a3), (4, .int a4)] [] 117 zRF h := by
  intro f
  induction f with
  | zero => intro _ _ _ _ h e; exact absurd e (fun z => by cases z)
  | succ f ih =>
    intro a1 a2 a3 a4 h e
    rw [s_X10_weightOf_L45] at e
    refine zv_iload X dX10_weightOf_45 rfl ?_
    refine zv_aload_n X dX10_weightOf_47 rfl rfl ?_
    refine zv_getR X zf_RX10_145 znt_a zk_67 zb_67 zr_67_54 dX10_weightOf_48 ?_
    refine zv_iload_n X dX10_weightOf_51 rfl rfl ?_
    refine zb e (fun v1 gv1 e => ?_)
    refine zv_iald X zk_111 zl_111 zb_111 dX10_weightOf_52 gv1 ?_
    refine zv_icmp_gt (tgt := 142) X dX10_weightOf_53 (by decide) (fun c2 => ?_) (fun c2 => ?_)
    · replace e := zit e c2
      refine zv_iload_n X dX10_weightOf_142 rfl rfl ?_
      refine zv_aload_n X dX10_weightOf_143 rfl rfl ?_
      refine zv_getR X zf_RX10_34 znt_a zk_67 zb_67 zr_67_11 dX10_weightOf_144 ?_
      refine zv_iload_n X dX10_weightOf_147 rfl rfl ?_
      refine zb e (fun v3 gv3 e => ?_)
      refine zv_iald X zk_76 zl_76 zb_76 dX10_weightOf_148 gv3 ?_
      refine zv_imul X dX10_weightOf_149 ?_
      exact zv_retI X e rfl dX10_weightOf_150
    · replace e := zif e c2
      refine zv_iconst (v := (0 : Int32)) X dX10_weightOf_56 zic_0 ?_
      refine zv_istore (i := 5) (lv' := [(5, .int (0 : Int32)), (0, .ref 67), (1, .int a1), (2, .int a2), (3, .int a3), (4, .int a4)]) X dX10_weightOf_57 (Nat.le_of_ble_eq_true rfl) rfl ?_
      refine zv_iconst (v := (0 : Int32)) X dX10_weightOf_59 zic_0 ?_
      refine zv_istore (i := 6) (lv' := [(6, .int (0 : Int32)), (5, .int (0 : Int32)), (0, .ref 67), (1, .int a1), (2, .int a2), (3, .int a3), (4, .int a4)]) X dX10_weightOf_60 (Nat.le_of_ble_eq_true rfl) rfl ?_
      exact zv_pick X [2, 3, 4, 5, 6, 1, 0] rfl (k_X10_weightOf_L62 q hd X ih _ _ _ _ _ _ _ _ e)
set_option maxRecDepth 100000 in
set_option maxHeartbeats 4000000 in
theorem k_X10_weightOf {l : Launch} {D : va_G} {cy : Nat → ClassId} {S0 d : Nat} (hd : 1 ≤ d) {a1 : Int32} {a2 : Int32} {h : zHp} {q : (Int32 × zHp)} (e : s_X10_weightOf a1 a2 h = some q) : zCT l D cy S0 d yX10_weightOf cX10_weightOf 7 (some .int) [.ref 67, .int a1, .int a2] 117 zRF h (some (.int q.1)) 117 zRF q.2 := by
  unfold s_X10_weightOf at e
  refine zCT_of RX10 rfl zm_X10_weightOf (Nat.le_refl _) (Nat.le_of_ble_eq_true rfl) (fun J X => ?_)
  show J 0 [(0, .ref 67), (1, .int a1), (2, .int a2)] [] 117 zRF h
  refine zv_aload_n X dX10_weightOf_0 rfl rfl ?_
  refine zv_getR X zf_RX10_31 znt_a zk_67 zb_67 zr_67_10 dX10_weightOf_1 ?_
  refine zv_iload_n X dX10_weightOf_4 rfl rfl ?_
  refine zb e (fun v1 gv1 e => ?_)
  refine zv_iald X zk_75 zl_75 zb_75 dX10_weightOf_5 gv1 ?_
  refine zv_aload_n X dX10_weightOf_6 rfl rfl ?_
  refine zv_getR X zf_RX10_139 znt_a zk_67 zb_67 zr_67_52 dX10_weightOf_7 ?_
  refine zv_iload_n X dX10_weightOf_10 rfl rfl ?_
  refine zb e (fun v2 gv2 e => ?_)
  refine zv_iald X zk_109 zl_109 zb_109 dX10_weightOf_11 gv2 ?_
  refine zv_icmp_ne (tgt := 33) X dX10_weightOf_12 (by decide) (fun c3 => ?_) (fun c3 => ?_)
  · replace e := zif e c3
    exact zv_pick X [] rfl (k_X10_weightOf_L33 q hd X  _ e)
  · replace e := zit e c3
    refine zv_aload_n X dX10_weightOf_15 rfl rfl ?_
    refine zv_getR X zf_RX10_40 znt_a zk_67 zb_67 zr_67_13 dX10_weightOf_16 ?_
    refine zv_iload_n X dX10_weightOf_19 rfl rfl ?_
    refine zb e (fun v4 gv4 e => ?_)
    refine zv_iald X zk_78 zl_78 zb_78 dX10_weightOf_20 gv4 ?_
    refine zv_aload_n X dX10_weightOf_21 rfl rfl ?_
    refine zv_getR X zf_RX10_148 znt_a zk_67 zb_67 zr_67_55 dX10_weightOf_22 ?_
    refine zv_iload_n X dX10_weightOf_25 rfl rfl ?_
    refine zb e (fun v5 gv5 e => ?_)
    refine zv_iald X zk_112 zl_112 zb_112 dX10_weightOf_26 gv5 ?_
    refine zv_ishr X dX10_weightOf_27 ?_
    refine zv_iconst (v := (1 : Int32)) X dX10_weightOf_28 zic_1 ?_
    refine zv_iand X dX10_weightOf_29 ?_
    refine zv_if_ne (tgt := 35) X dX10_weightOf_30 (by decide) (fun c6 => ?_) (fun c6 => ?_)
    · replace e := zif e c6
      refine zv_iconst (v := (0 : Int32)) X dX10_weightOf_35 zic_0 ?_
      refine zv_istore_n (i := 3) (lv' := [(3, .int (0 : Int32)), (0, .ref 67), (1, .int a1), (2, .int a2)]) X dX10_weightOf_36 rfl (Nat.le_of_ble_eq_true rfl) rfl ?_
      refine zv_aload_n X dX10_weightOf_37 rfl rfl ?_
      refine zv_getR X zf_RX10_142 znt_a zk_67 zb_67 zr_67_53 dX10_weightOf_38 ?_
      refine zv_iload_n X dX10_weightOf_41 rfl rfl ?_
      refine zb e (fun v7 gv7 e => ?_)
      refine zv_iald X zk_110 zl_110 zb_110 dX10_weightOf_42 gv7 ?_
      refine zv_istore (i := 4) (lv' := [(4, .int v7), (3, .int (0 : Int32)), (0, .ref 67), (1, .int a1), (2, .int a2)]) X dX10_weightOf_43 (Nat.le_of_ble_eq_true rfl) rfl ?_
      exact zv_pick X [2, 3, 4, 1, 0] rfl (k_X10_weightOf_L45 q hd X _ _ _ _ _ _ e)
    · replace e := zit e c6
      exact zv_pick X [] rfl (k_X10_weightOf_L33 q hd X  _ e)
-- X10_weightsOf
def s_X10_weightsOf_L4 : Nat → Int32 → Int32 → Int32 → zHp → Option (Int32 × zHp)
  | 0, _, _, _, _ => none
  | f + 1, a1, a2, a3, h =>
  if (h.1 67 8) ≤ a3 then
    some (a2, h)
  else
    (s_X10_weightOf a1 a3 h).bind fun q2 =>
    (some (a2 + q2.1)).bind fun v3 =>
    s_X10_weightsOf_L4 f a1 v3 (a3 + (1 : Int32)) q2.2
def s_X10_weightsOf (a1 : Int32) (h : zHp) : Option (Int32 × zHp) :=
  s_X10_weightsOf_L4 zFU a1 (0 : Int32) (0 : Int32) h
set_option maxRecDepth 100000 in
set_option maxHeartbeats 4000000 in
theorem k_X10_weightsOf_L4 {l : Launch} {D : va_G} {cy : Nat → ClassId} {S0 d : Nat} {J : zJ} (q : (Int32 × zHp)) (hd : 2 ≤ d) (X : zOK l D cy S0 d RX10 cX10_weightsOf 4 (yX10_weightsOf.name == "<init>") 117 117 (some .int) (zRT 117 zRF (some (.int q.1)) q.2) J) : ∀ (f : Nat) (a1 : Int32) (a2 : Int32) (a3 : Int32) (h : zHp), s_X10_weightsOf_L4 f a1 a2 a3 h = some q → J 4 [(0, .ref 67), (1, .int a1), (2, .int a2), (3, .int a3)] [] 117 zRF h := by
  intro f
  induction f with
  | zero => intro _ _ _ h e; exact absurd e (fun z => by cases z)
  | succ f ih =>
    intro a1 a2 a3 h e
    rw [s_X10_weightsOf_L4] at e
    refine zv_iload_n X dX10_weightsOf_4 rfl rfl ?_
    refine zv_aload_n X dX10_weightsOf_5 rfl rfl ?_
    refine zv_getI X zf_RX10_165 zk_67 zb_67 dX10_weightsOf_6 ?_
    refine zv_icmp_ge (tgt := 27) X dX10_weightsOf_9 (by decide) (fun c1 => ?_) (fun c1 => ?_)
    · replace e := zit e c1
      refine zv_iload_n X dX10_weightsOf_27 rfl rfl ?_
      exact zv_retI X e rfl dX10_weightsOf_28
    · replace e := zif e c1
      refine zv_iload_n X dX10_weightsOf_12 rfl rfl ?_
      refine zv_aload_n X dX10_weightsOf_13 rfl rfl ?_
      refine zv_iload_n X dX10_weightsOf_14 rfl rfl ?_
      refine zv_iload_n X dX10_weightsOf_15 rfl rfl ?_
      refine zb e (fun q2 gq2 e => ?_)
      refine zv_callV (stk := [.int a3, .int a1, .ref 67, .int a2]) (as := [.int a1, .int a3]) (st := [.int a2]) (k := 67) X zl_RX10_298 zm_X10_weightOf (k_X10_weightOf (d := d - 1) (by omega) gq2) (by omega) zb_67 (by rw [zk_67]; rfl) rfl rfl (Nat.le_of_ble_eq_true rfl) (Nat.le_refl _) rfl dX10_weightsOf_16 ?_
      show J 19 [(0, .ref 67), (1, .int a1), (2, .int a2), (3, .int a3)] [.int q2.1, .int a2] 117 zRF q2.2
      refine zv_iadd X dX10_weightsOf_19 ?_
      refine zb e (fun v3 gv3 e => ?_)
      refine zv_nmI X gv3 ?_
      refine zv_istore_n (i := 2) (lv' := [(2, .int v3), (0, .ref 67), (1, .int a1), (3, .int a3)]) X dX10_weightsOf_20 rfl (Nat.le_of_ble_eq_true rfl) rfl ?_
      refine zv_iinc (k := 3) (v := a3 + (1 : Int32)) (lv' := [(3, .int (a3 + (1 : Int32))), (2, .int v3), (0, .ref 67), (1, .int a1)]) X dX10_weightsOf_21 rfl rfl (Nat.le_of_ble_eq_true rfl) rfl ?_
      refine zv_goto (tgt := 4) X dX10_weightsOf_24 (by decide) ?_
      exact zv_pick X [2, 3, 1, 0] rfl (ih _ _ _ _ e)
set_option maxRecDepth 100000 in
set_option maxHeartbeats 4000000 in
theorem k_X10_weightsOf {l : Launch} {D : va_G} {cy : Nat → ClassId} {S0 d : Nat} (hd : 2 ≤ d) {a1 : Int32} {h : zHp} {q : (Int32 × zHp)} (e : s_X10_weightsOf a1 h = some q) : zCT l D cy S0 d yX10_weightsOf cX10_weightsOf 4 (some .int) [.ref 67, .int a1] 117 zRF h (some (.int q.1)) 117 zRF q.2 := by
  unfold s_X10_weightsOf at e
  refine zCT_of RX10 rfl zm_X10_weightsOf (Nat.le_refl _) (Nat.le_of_ble_eq_true rfl) (fun J X => ?_)
  show J 0 [(0, .ref 67), (1, .int a1)] [] 117 zRF h
  refine zv_iconst (v := (0 : Int32)) X dX10_weightsOf_0 zic_0 ?_
  refine zv_istore_n (i := 2) (lv' := [(2, .int (0 : Int32)), (0, .ref 67), (1, .int a1)]) X dX10_weightsOf_1 rfl (Nat.le_of_ble_eq_true rfl) rfl ?_
  refine zv_iconst (v := (0 : Int32)) X dX10_weightsOf_2 zic_0 ?_
  refine zv_istore_n (i := 3) (lv' := [(3, .int (0 : Int32)), (2, .int (0 : Int32)), (0, .ref 67), (1, .int a1)]) X dX10_weightsOf_3 rfl (Nat.le_of_ble_eq_true rfl) rfl ?_
  exact zv_pick X [2, 3, 1, 0] rfl (k_X10_weightsOf_L4 q hd X _ _ _ _ _ e)
-- X10_part
def s_X10_part_L22  (h : zHp) : Option (Int32 × zHp) :=
  (s_X10_refuse (-1 : Int32) h).bind fun q1 =>
  some (q1.1, q1.2)
def s_X10_part_L95 (b0 : Int32) (h : zHp) : Option (Int32 × zHp) :=
  some (b0, h)
def s_X10_part (a1 : Int32) (a2 : Int32) (a3 : Int32) (h : zHp) : Option (Int32 × zHp) :=
  (s_X10_in a1 (0 : Int32) ((h.1 67 51) - (1 : Int32)) h).bind fun q1 =>
  if q1.1 = 0 then
    s_X10_part_L22 q1.2
  else
    (s_X10_isKitchen a2 q1.2).bind fun q3 =>
    if q3.1 = 0 then
      s_X10_part_L22 q3.2
    else
      (s_X10_in a3 (0 : Int32) (1 : Int32) q3.2).bind fun q5 =>
      if q5.1 = 0 then
        (s_X10_refuse (-2 : Int32) q5.2).bind fun q14 =>
        some (q14.1, q14.2)
      else
        (s_X10_weightOf a1 a2 q5.2).bind fun q7 =>
        if q7.1 = 0 then
          some (a3, q7.2)
        else
          (s_X10_weightsOf a1 q7.2).bind fun q9 =>
          (s_X10_divisor q7.1.toInt64 q9.1.toInt64 q9.2).bind fun q10 =>
          if a3 = 0 then
            (zdiv q7.1 q10.1.toInt32).bind fun v13 =>
            s_X10_part_L95 v13 q10.2
          else
            (zdiv q9.1 q10.1.toInt32).bind fun v12 =>
            s_X10_part_L95 v12 q10.2
set_option maxRecDepth 100000 in
set_option maxHeartbeats 4000000 in
theorem k_X10_part_L22 {l : Launch} {D : va_G} {cy : Nat → ClassId} {S0 d : Nat} {J : zJ} (q : (Int32 × zHp)) (hd : 3 ≤ d) (X : zOK l D cy S0 d RX10 cX10_part 7 (yX10_part.name == "<init>") 117 117 (some .int) (zRT 117 zRF (some (.int q.1)) q.2) J) : ∀  (h : zHp), s_X10_part_L22  h = some q → J 22 [(0, .ref 67)] [] 117 zRF h := by
  intro  h e
  unfold s_X10_part_L22 at e
  refine zv_aload_n X dX10_part_22 rfl rfl ?_
  refine zv_iconst (v := (-1 : Int32)) X dX10_part_23 zic_m1 ?_
  refine zb e (fun q1 gq1 e => ?_)
  refine zv_callV (stk := [.int (-1 : Int32), .ref 67]) (as := [.int (-1 : Int32)]) (st := []) (k := 67) X zl_RX10_175 zm_X10_refuse (k_X10_refuse (d := d - 1) (by omega) gq1) (by omega) zb_67 (by rw [zk_67]; rfl) rfl rfl (Nat.le_of_ble_eq_true rfl) (Nat.le_refl _) rfl dX10_part_24 ?_
  show J 27 [(0, .ref 67)] [.int q1.1] 117 zRF q1.2
  exact zv_retI X e rfl dX10_part_27
set_option maxRecDepth 100000 in
set_option maxHeartbeats 4000000 in
theorem k_X10_part_L95 {l : Launch} {D : va_G} {cy : Nat → ClassId} {S0 d : Nat} {J : zJ} (q : (Int32 × zHp)) (hd : 3 ≤ d) (X : zOK l D cy S0 d RX10 cX10_part 7 (yX10_part.name == "<init>") 117 117 (some .int) (zRT 117 zRF (some (.int q.1)) q.2) J) : ∀ (b0 : Int32) (h : zHp), s_X10_part_L95 b0 h = some q → J 95 [] [.int b0] 117 zRF h := by
  intro b0 h e
  unfold s_X10_part_L95 at e
  exact zv_retI X e rfl dX10_part_95
set_option maxRecDepth 100000 in
set_option maxHeartbeats 4000000 in
theorem k_X10_part {l : Launch} {D : va_G} {cy : Nat → ClassId} {S0 d : Nat} (hd : 3 ≤ d) {a1 : Int32} {a2 : Int32} {a3 : Int32} {h : zHp} {q : (Int32 × zHp)} (e : s_X10_part a1 a2 a3 h = some q) : zCT l D cy S0 d yX10_part cX10_part 7 (some .int) [.ref 67, .int a1, .int a2, .int a3] 117 zRF h (some (.int q.1)) 117 zRF q.2 := by
  unfold s_X10_part at e
  refine zCT_of RX10 rfl zm_X10_part (Nat.le_refl _) (Nat.le_of_ble_eq_true rfl) (fun J X => ?_)
  show J 0 [(0, .ref 67), (1, .int a1), (2, .int a2), (3, .int a3)] [] 117 zRF h
  refine zv_iload_n X dX10_part_0 rfl rfl ?_
  refine zv_iconst (v := (0 : Int32)) X dX10_part_1 zic_0 ?_
  refine zv_aload_n X dX10_part_2 rfl rfl ?_
  refine zv_getI X zf_RX10_295 zk_67 zb_67 dX10_part_3 ?_
  refine zv_iconst (v := (1 : Int32)) X dX10_part_6 zic_1 ?_
  refine zv_isub X dX10_part_7 ?_
  refine zb e (fun q1 gq1 e => ?_)
  refine zv_callS (stk := [.int ((h.1 67 51) - (1 : Int32)), .int (0 : Int32), .int a1]) (as := [.int a1, .int (0 : Int32), .int ((h.1 67 51) - (1 : Int32))]) (st := []) X zl_RX10_168 zm_X10_in (k_X10_in (d := d - 1) (by omega) gq1) (by omega) rfl (Nat.le_of_ble_eq_true rfl) (Nat.le_refl _) rfl dX10_part_8 ?_
  show J 11 [(0, .ref 67), (1, .int a1), (2, .int a2), (3, .int a3)] [.int q1.1] 117 zRF q1.2
  refine zv_if_eq (tgt := 22) X dX10_part_11 (by decide) (fun c2 => ?_) (fun c2 => ?_)
  · replace e := zit e c2
    exact zv_pick X [0] rfl (k_X10_part_L22 q hd X  _ e)
  · replace e := zif e c2
    refine zv_aload_n X dX10_part_14 rfl rfl ?_
    refine zv_iload_n X dX10_part_15 rfl rfl ?_
    refine zb e (fun q3 gq3 e => ?_)
    refine zv_callV (stk := [.int a2, .ref 67]) (as := [.int a2]) (st := []) (k := 67) X zl_RX10_196 zm_X10_isKitchen (k_X10_isKitchen (d := d - 1) (by omega) gq3) (by omega) zb_67 (by rw [zk_67]; rfl) rfl rfl (Nat.le_of_ble_eq_true rfl) (Nat.le_refl _) rfl dX10_part_16 ?_
    show J 19 [(0, .ref 67), (1, .int a1), (2, .int a2), (3, .int a3)] [.int q3.1] 117 zRF q3.2
    refine zv_if_ne (tgt := 28) X dX10_part_19 (by decide) (fun c4 => ?_) (fun c4 => ?_)
    · replace e := zif e c4
      refine zv_iload_n X dX10_part_28 rfl rfl ?_
      refine zv_iconst (v := (0 : Int32)) X dX10_part_29 zic_0 ?_
      refine zv_iconst (v := (1 : Int32)) X dX10_part_30 zic_1 ?_
      refine zb e (fun q5 gq5 e => ?_)
      refine zv_callS (stk := [.int (1 : Int32), .int (0 : Int32), .int a3]) (as := [.int a3, .int (0 : Int32), .int (1 : Int32)]) (st := []) X zl_RX10_168 zm_X10_in (k_X10_in (d := d - 1) (by omega) gq5) (by omega) rfl (Nat.le_of_ble_eq_true rfl) (Nat.le_refl _) rfl dX10_part_31 ?_
      show J 34 [(0, .ref 67), (1, .int a1), (2, .int a2), (3, .int a3)] [.int q5.1] 117 zRF q5.2
      refine zv_if_ne (tgt := 44) X dX10_part_34 (by decide) (fun c6 => ?_) (fun c6 => ?_)
      · replace e := zif e c6
        refine zv_aload_n X dX10_part_44 rfl rfl ?_
        refine zv_iload_n X dX10_part_45 rfl rfl ?_
        refine zv_iload_n X dX10_part_46 rfl rfl ?_
        refine zb e (fun q7 gq7 e => ?_)
        refine zv_callV (stk := [.int a2, .int a1, .ref 67]) (as := [.int a1, .int a2]) (st := []) (k := 67) X zl_RX10_298 zm_X10_weightOf (k_X10_weightOf (d := d - 1) (by omega) gq7) (by omega) zb_67 (by rw [zk_67]; rfl) rfl rfl (Nat.le_of_ble_eq_true rfl) (Nat.le_refl _) rfl dX10_part_47 ?_
        show J 50 [(0, .ref 67), (1, .int a1), (2, .int a2), (3, .int a3)] [.int q7.1] 117 zRF q7.2
        refine zv_istore (i := 4) (lv' := [(4, .int q7.1), (0, .ref 67), (1, .int a1), (2, .int a2), (3, .int a3)]) X dX10_part_50 (Nat.le_of_ble_eq_true rfl) rfl ?_
        refine zv_iload X dX10_part_52 rfl ?_
        refine zv_if_ne (tgt := 59) X dX10_part_54 (by decide) (fun c8 => ?_) (fun c8 => ?_)
        · replace e := zif e c8
          refine zv_aload_n X dX10_part_59 rfl rfl ?_
          refine zv_iload_n X dX10_part_60 rfl rfl ?_
          refine zb e (fun q9 gq9 e => ?_)
          refine zv_callV (stk := [.int a1, .ref 67]) (as := [.int a1]) (st := []) (k := 67) X zl_RX10_301 zm_X10_weightsOf (k_X10_weightsOf (d := d - 1) (by omega) gq9) (by omega) zb_67 (by rw [zk_67]; rfl) rfl rfl (Nat.le_of_ble_eq_true rfl) (Nat.le_refl _) rfl dX10_part_61 ?_
          show J 64 [(4, .int q7.1), (0, .ref 67), (1, .int a1), (2, .int a2), (3, .int a3)] [.int q9.1] 117 zRF q9.2
          refine zv_istore (i := 5) (lv' := [(5, .int q9.1), (4, .int q7.1), (0, .ref 67), (1, .int a1), (2, .int a2), (3, .int a3)]) X dX10_part_64 (Nat.le_of_ble_eq_true rfl) rfl ?_
          refine zv_iload X dX10_part_66 rfl ?_
          refine zv_i2l X dX10_part_68 ?_
          refine zv_iload X dX10_part_69 rfl ?_
          refine zv_i2l X dX10_part_71 ?_
          refine zb e (fun q10 gq10 e => ?_)
          refine zv_callS (stk := [.long q9.1.toInt64, .long q7.1.toInt64]) (as := [.long q7.1.toInt64, .long q9.1.toInt64]) (st := []) X zl_RX10_281 zm_X10_divisor (k_X10_divisor (d := d - 1) (by omega) gq10) (by omega) rfl (Nat.le_of_ble_eq_true rfl) (Nat.le_refl _) rfl dX10_part_72 ?_
          show J 75 [(5, .int q9.1), (4, .int q7.1), (0, .ref 67), (1, .int a1), (2, .int a2), (3, .int a3)] [.long q10.1] 117 zRF q10.2
          refine zv_l2i X dX10_part_75 ?_
          refine zv_istore (i := 6) (lv' := [(6, .int q10.1.toInt32), (5, .int q9.1), (4, .int q7.1), (0, .ref 67), (1, .int a1), (2, .int a2), (3, .int a3)]) X dX10_part_76 (Nat.le_of_ble_eq_true rfl) rfl ?_
          refine zv_iload_n X dX10_part_78 rfl rfl ?_
          refine zv_if_ne (tgt := 90) X dX10_part_79 (by decide) (fun c11 => ?_) (fun c11 => ?_)
          · replace e := zif e c11
            refine zv_iload X dX10_part_90 rfl ?_
            refine zv_iload X dX10_part_92 rfl ?_
            refine zb e (fun v12 gv12 e => ?_)
            refine zv_idiv X dX10_part_94 gv12 ?_
            exact zv_pick X [] rfl (k_X10_part_L95 q hd X _ _ e)
          · replace e := zit e c11
            refine zv_iload X dX10_part_82 rfl ?_
            refine zv_iload X dX10_part_84 rfl ?_
            refine zb e (fun v13 gv13 e => ?_)
            refine zv_idiv X dX10_part_86 gv13 ?_
            refine zv_goto (tgt := 95) X dX10_part_87 (by decide) ?_
            exact zv_pick X [] rfl (k_X10_part_L95 q hd X _ _ e)
        · replace e := zit e c8
          refine zv_iload_n X dX10_part_57 rfl rfl ?_
          exact zv_retI X e rfl dX10_part_58
      · replace e := zit e c6
        refine zv_aload_n X dX10_part_37 rfl rfl ?_
        refine zv_bipush (v := (-2 : Int32)) X dX10_part_38 zbp_m2 ?_
        refine zb e (fun q14 gq14 e => ?_)
        refine zv_callV (stk := [.int (-2 : Int32), .ref 67]) (as := [.int (-2 : Int32)]) (st := []) (k := 67) X zl_RX10_175 zm_X10_refuse (k_X10_refuse (d := d - 1) (by omega) gq14) (by omega) zb_67 (by rw [zk_67]; rfl) rfl rfl (Nat.le_of_ble_eq_true rfl) (Nat.le_refl _) rfl dX10_part_40 ?_
        show J 43 [(0, .ref 67), (1, .int a1), (2, .int a2), (3, .int a3)] [.int q14.1] 117 zRF q14.2
        exact zv_retI X e rfl dX10_part_43
    · replace e := zit e c4
      exact zv_pick X [0] rfl (k_X10_part_L22 q hd X  _ e)
-- X1_kitchenOf
def s_X1_kitchenOf_L8 : Nat → Int32 → Int32 → zHp → Option (Int32 × zHp)
  | 0, _, _, _ => none
  | f + 1, a2, a3, h =>
  (s_X4_size h).bind fun q1 =>
  if q1.1 ≤ a3 then
    some ((-9 : Int32), q1.2)
  else
    (zri q1.2 57 20 a3).bind fun v3 =>
    if ((2 : Int32) * v3) ≤ a2 then
      s_X1_kitchenOf_L8 f a2 (a3 + (1 : Int32)) q1.2
    else
      some (a3, q1.2)
def s_X1_kitchenOf (a1 : Int32) (h : zHp) : Option (Int32 × zHp) :=
  (s_X1_weighAll a1 h).bind fun q1 =>
  s_X1_kitchenOf_L8 zFU q1.1 (0 : Int32) q1.2
set_option maxRecDepth 100000 in
set_option maxHeartbeats 4000000 in
theorem k_X1_kitchenOf_L8 {l : Launch} {D : va_G} {cy : Nat → ClassId} {S0 d : Nat} {J : zJ} (q : (Int32 × zHp)) (hd : 4 ≤ d) (X : zOK l D cy S0 d RX1 cX1_kitchenOf 4 (yX1_kitchenOf.name == "<init>") 117 117 (some .int) (zRT 117 zRF (some (.int q.1)) q.2) J) : ∀ (f : Nat) (a2 : Int32) (a3 : Int32) (h : zHp), s_X1_kitchenOf_L8 f a2 a3 h = some q → J 8 [(0, .ref 52), (2, .int a2), (3, .int a3)] [] 117 zRF h := by
  intro f
  induction f with
  | zero => intro _ _ h e; exact absurd e (fun z => by cases z)
  | succ f ih =>
    intro a2 a3 h e
    rw [s_X1_kitchenOf_L8] at e
    refine zv_iload_n X dX1_kitchenOf_8 rfl rfl ?_
    refine zv_aload_n X dX1_kitchenOf_9 rfl rfl ?_
    refine zv_getR X zf_RX1_38 znt_o zk_52 zb_52 zr_52_0 dX1_kitchenOf_10 ?_
    refine zb e (fun q1 gq1 e => ?_)
    refine zv_callV (stk := [.ref 13, .int a3]) (as := []) (st := [.int a3]) (k := 13) X zl_RX1_50 zm_X4_size (k_X4_size (d := d - 1) (by omega) gq1) (by omega) zb_13 (by rw [zk_13]; rfl) rfl rfl (Nat.le_of_ble_eq_true rfl) (Nat.le_refl _) rfl dX1_kitchenOf_13 ?_
    show J 16 [(0, .ref 52), (2, .int a2), (3, .int a3)] [.int q1.1, .int a3] 117 zRF q1.2
    refine zv_icmp_ge (tgt := 39) X dX1_kitchenOf_16 (by decide) (fun c2 => ?_) (fun c2 => ?_)
    · replace e := zit e c2
      refine zv_bipush (v := (-9 : Int32)) X dX1_kitchenOf_39 zbp_m9 ?_
      exact zv_retI X e rfl dX1_kitchenOf_41
    · replace e := zif e c2
      refine zv_iconst (v := (2 : Int32)) X dX1_kitchenOf_19 zic_2 ?_
      refine zv_aload_n X dX1_kitchenOf_20 rfl rfl ?_
      refine zv_getR X zf_RX1_24 znt_a zk_52 zb_52 zr_52_5 dX1_kitchenOf_21 ?_
      refine zv_iload_n X dX1_kitchenOf_24 rfl rfl ?_
      refine zb e (fun v3 gv3 e => ?_)
      refine zv_iald X zk_57 zl_57 zb_57 dX1_kitchenOf_25 gv3 ?_
      refine zv_imul X dX1_kitchenOf_26 ?_
      refine zv_iload_n X dX1_kitchenOf_27 rfl rfl ?_
      refine zv_icmp_le (tgt := 33) X dX1_kitchenOf_28 (by decide) (fun c4 => ?_) (fun c4 => ?_)
      · replace e := zit e c4
        refine zv_iinc (k := 2) (v := a3 + (1 : Int32)) (lv' := [(3, .int (a3 + (1 : Int32))), (0, .ref 52), (2, .int a2)]) X dX1_kitchenOf_33 rfl rfl (Nat.le_of_ble_eq_true rfl) rfl ?_
        refine zv_goto (tgt := 8) X dX1_kitchenOf_36 (by decide) ?_
        exact zv_pick X [1, 2, 0] rfl (ih _ _ _ e)
      · replace e := zif e c4
        refine zv_iload_n X dX1_kitchenOf_31 rfl rfl ?_
        exact zv_retI X e rfl dX1_kitchenOf_32
set_option maxRecDepth 100000 in
set_option maxHeartbeats 4000000 in
theorem k_X1_kitchenOf {l : Launch} {D : va_G} {cy : Nat → ClassId} {S0 d : Nat} (hd : 4 ≤ d) {a1 : Int32} {h : zHp} {q : (Int32 × zHp)} (e : s_X1_kitchenOf a1 h = some q) : zCT l D cy S0 d yX1_kitchenOf cX1_kitchenOf 4 (some .int) [.ref 52, .int a1] 117 zRF h (some (.int q.1)) 117 zRF q.2 := by
  unfold s_X1_kitchenOf at e
  refine zCT_of RX1 rfl zm_X1_kitchenOf (Nat.le_refl _) (Nat.le_of_ble_eq_true rfl) (fun J X => ?_)
  show J 0 [(0, .ref 52), (1, .int a1)] [] 117 zRF h
  refine zv_aload_n X dX1_kitchenOf_0 rfl rfl ?_
  refine zv_iload_n X dX1_kitchenOf_1 rfl rfl ?_
  refine zb e (fun q1 gq1 e => ?_)
  refine zv_callV (stk := [.int a1, .ref 52]) (as := [.int a1]) (st := []) (k := 52) X zl_RX1_42 zm_X1_weighAll (k_X1_weighAll (d := d - 1) (by omega) gq1) (by omega) zb_52 (by rw [zk_52]; rfl) rfl rfl (Nat.le_of_ble_eq_true rfl) (Nat.le_refl _) rfl dX1_kitchenOf_2 ?_
  show J 5 [(0, .ref 52), (1, .int a1)] [.int q1.1] 117 zRF q1.2
  refine zv_istore_n (i := 2) (lv' := [(2, .int q1.1), (0, .ref 52), (1, .int a1)]) X dX1_kitchenOf_5 rfl (Nat.le_of_ble_eq_true rfl) rfl ?_
  refine zv_iconst (v := (0 : Int32)) X dX1_kitchenOf_6 zic_0 ?_
  refine zv_istore_n (i := 3) (lv' := [(3, .int (0 : Int32)), (2, .int q1.1), (0, .ref 52), (1, .int a1)]) X dX1_kitchenOf_7 rfl (Nat.le_of_ble_eq_true rfl) rfl ?_
  exact zv_pick X [2, 1, 0] rfl (k_X1_kitchenOf_L8 q hd X _ _ _ _ e)
-- X9_joined
def s_X9_joined (a1 : Int32) (h : zHp) : Option (Int32 × zHp) :=
  (s_X1_has a1 h).bind fun q1 =>
  if q1.1 = 0 then
    (s_X9_refused (-1 : Int32) q1.2).bind fun q4 =>
    some (q4.1, q4.2)
  else
    (s_X1_kitchenOf a1 q1.2).bind fun q3 =>
    some (q3.1, q3.2)
set_option maxRecDepth 100000 in
set_option maxHeartbeats 4000000 in
theorem k_X9_joined {l : Launch} {D : va_G} {cy : Nat → ClassId} {S0 d : Nat} (hd : 5 ≤ d) {a1 : Int32} {h : zHp} {q : (Int32 × zHp)} (e : s_X9_joined a1 h = some q) : zCT l D cy S0 d yX9_joined cX9_joined 2 (some .int) [.ref 0, .int a1] 117 zRF h (some (.int q.1)) 117 zRF q.2 := by
  unfold s_X9_joined at e
  refine zCT_of RX9 rfl zm_X9_joined (Nat.le_refl _) (Nat.le_of_ble_eq_true rfl) (fun J X => ?_)
  show J 0 [(0, .ref 0), (1, .int a1)] [] 117 zRF h
  refine zv_aload_n X dX9_joined_0 rfl rfl ?_
  refine zv_getR X zf_RX9_77 znt_o zk_0 zb_0 zr_0_11 dX9_joined_1 ?_
  refine zv_iload_n X dX9_joined_4 rfl rfl ?_
  refine zb e (fun q1 gq1 e => ?_)
  refine zv_callV (stk := [.int a1, .ref 52]) (as := [.int a1]) (st := []) (k := 52) X zl_RX9_262 zm_X1_has (k_X1_has (d := d - 1) (by omega) gq1) (by omega) zb_52 (by rw [zk_52]; rfl) rfl rfl (Nat.le_of_ble_eq_true rfl) (Nat.le_refl _) rfl dX9_joined_5 ?_
  show J 8 [(0, .ref 0), (1, .int a1)] [.int q1.1] 117 zRF q1.2
  refine zv_if_ne (tgt := 17) X dX9_joined_8 (by decide) (fun c2 => ?_) (fun c2 => ?_)
  · replace e := zif e c2
    refine zv_aload_n X dX9_joined_17 rfl rfl ?_
    refine zv_getR X zf_RX9_77 znt_o zk_0 zb_0 zr_0_11 dX9_joined_18 ?_
    refine zv_iload_n X dX9_joined_21 rfl rfl ?_
    refine zb e (fun q3 gq3 e => ?_)
    refine zv_callV (stk := [.int a1, .ref 52]) (as := [.int a1]) (st := []) (k := 52) X zl_RX9_267 zm_X1_kitchenOf (k_X1_kitchenOf (d := d - 1) (by omega) gq3) (by omega) zb_52 (by rw [zk_52]; rfl) rfl rfl (Nat.le_of_ble_eq_true rfl) (Nat.le_refl _) rfl dX9_joined_22 ?_
    show J 25 [(0, .ref 0), (1, .int a1)] [.int q3.1] 117 zRF q3.2
    exact zv_retI X e rfl dX9_joined_25
  · replace e := zit e c2
    refine zv_aload_n X dX9_joined_11 rfl rfl ?_
    refine zv_iconst (v := (-1 : Int32)) X dX9_joined_12 zic_m1 ?_
    refine zb e (fun q4 gq4 e => ?_)
    refine zv_callV (stk := [.int (-1 : Int32), .ref 0]) (as := [.int (-1 : Int32)]) (st := []) (k := 0) X zl_RX9_108 zm_X9_refused (k_X9_refused (d := d - 1) (by omega) gq4) (by omega) zb_0 (by rw [zk_0]; rfl) rfl rfl (Nat.le_of_ble_eq_true rfl) (Nat.le_refl _) rfl dX9_joined_13 ?_
    show J 16 [(0, .ref 0), (1, .int a1)] [.int q4.1] 117 zRF q4.2
    exact zv_retI X e rfl dX9_joined_16
-- X10_joinedTo
def s_X10_joinedTo_L8 : Nat → Int32 → Int32 → Int32 → zHp → Option (Int32 × zHp)
  | 0, _, _, _, _ => none
  | f + 1, a1, a2, a3, h =>
  if (h.1 67 8) ≤ a3 then
    some ((-9 : Int32), h)
  else
    (s_X10_weightOf a1 a3 h).bind fun q2 =>
    if ((2 : Int64) * q2.1.toInt64) ≤ a2.toInt64 then
      s_X10_joinedTo_L8 f a1 a2 (a3 + (1 : Int32)) q2.2
    else
      some (a3, q2.2)
def s_X10_joinedTo (a1 : Int32) (h : zHp) : Option (Int32 × zHp) :=
  (s_X10_weightsOf a1 h).bind fun q1 =>
  s_X10_joinedTo_L8 zFU a1 q1.1 (0 : Int32) q1.2
set_option maxRecDepth 100000 in
set_option maxHeartbeats 4000000 in
theorem k_X10_joinedTo_L8 {l : Launch} {D : va_G} {cy : Nat → ClassId} {S0 d : Nat} {J : zJ} (q : (Int32 × zHp)) (hd : 3 ≤ d) (X : zOK l D cy S0 d RX10 cX10_joinedTo 4 (yX10_joinedTo.name == "<init>") 117 117 (some .int) (zRT 117 zRF (some (.int q.1)) q.2) J) : ∀ (f : Nat) (a1 : Int32) (a2 : Int32) (a3 : Int32) (h : zHp), s_X10_joinedTo_L8 f a1 a2 a3 h = some q → J 8 [(0, .ref 67), (1, .int a1), (2, .int a2), (3, .int a3)] [] 117 zRF h := by
  intro f
  induction f with
  | zero => intro _ _ _ h e; exact absurd e (fun z => by cases z)
  | succ f ih =>
    intro a1 a2 a3 h e
    rw [s_X10_joinedTo_L8] at e
    refine zv_iload_n X dX10_joinedTo_8 rfl rfl ?_
    refine zv_aload_n X dX10_joinedTo_9 rfl rfl ?_
    refine zv_getI X zf_RX10_165 zk_67 zb_67 dX10_joinedTo_10 ?_
    refine zv_icmp_ge (tgt := 41) X dX10_joinedTo_13 (by decide) (fun c1 => ?_) (fun c1 => ?_)
    · replace e := zit e c1
      refine zv_bipush (v := (-9 : Int32)) X dX10_joinedTo_41 zbp_m9 ?_
      exact zv_retI X e rfl dX10_joinedTo_43
    · replace e := zif e c1
      refine zv_ldc2 (v := (2 : Int64)) X zc_RX10_304 dX10_joinedTo_16 ?_
      refine zv_aload_n X dX10_joinedTo_19 rfl rfl ?_
      refine zv_iload_n X dX10_joinedTo_20 rfl rfl ?_
      refine zv_iload_n X dX10_joinedTo_21 rfl rfl ?_
      refine zb e (fun q2 gq2 e => ?_)
      refine zv_callV (stk := [.int a3, .int a1, .ref 67, .long (2 : Int64)]) (as := [.int a1, .int a3]) (st := [.long (2 : Int64)]) (k := 67) X zl_RX10_298 zm_X10_weightOf (k_X10_weightOf (d := d - 1) (by omega) gq2) (by omega) zb_67 (by rw [zk_67]; rfl) rfl rfl (Nat.le_of_ble_eq_true rfl) (Nat.le_refl _) rfl dX10_joinedTo_22 ?_
      show J 25 [(0, .ref 67), (1, .int a1), (2, .int a2), (3, .int a3)] [.int q2.1, .long (2 : Int64)] 117 zRF q2.2
      refine zv_i2l X dX10_joinedTo_25 ?_
      refine zv_lmul X dX10_joinedTo_26 ?_
      refine zv_iload_n X dX10_joinedTo_27 rfl rfl ?_
      refine zv_i2l X dX10_joinedTo_28 ?_
      refine zv_lcmp_le (tgt := 35) (pc2 := 33) X dX10_joinedTo_29 rfl dX10_joinedTo_30 (by decide) rfl (fun c3 => ?_) (fun c3 => ?_)
      · replace e := zit e c3
        refine zv_iinc (k := 3) (v := a3 + (1 : Int32)) (lv' := [(3, .int (a3 + (1 : Int32))), (0, .ref 67), (1, .int a1), (2, .int a2)]) X dX10_joinedTo_35 rfl rfl (Nat.le_of_ble_eq_true rfl) rfl ?_
        refine zv_goto (tgt := 8) X dX10_joinedTo_38 (by decide) ?_
        exact zv_pick X [1, 2, 3, 0] rfl (ih _ _ _ _ e)
      · replace e := zif e c3
        refine zv_iload_n X dX10_joinedTo_33 rfl rfl ?_
        exact zv_retI X e rfl dX10_joinedTo_34
set_option maxRecDepth 100000 in
set_option maxHeartbeats 4000000 in
theorem k_X10_joinedTo {l : Launch} {D : va_G} {cy : Nat → ClassId} {S0 d : Nat} (hd : 3 ≤ d) {a1 : Int32} {h : zHp} {q : (Int32 × zHp)} (e : s_X10_joinedTo a1 h = some q) : zCT l D cy S0 d yX10_joinedTo cX10_joinedTo 4 (some .int) [.ref 67, .int a1] 117 zRF h (some (.int q.1)) 117 zRF q.2 := by
  unfold s_X10_joinedTo at e
  refine zCT_of RX10 rfl zm_X10_joinedTo (Nat.le_refl _) (Nat.le_of_ble_eq_true rfl) (fun J X => ?_)
  show J 0 [(0, .ref 67), (1, .int a1)] [] 117 zRF h
  refine zv_aload_n X dX10_joinedTo_0 rfl rfl ?_
  refine zv_iload_n X dX10_joinedTo_1 rfl rfl ?_
  refine zb e (fun q1 gq1 e => ?_)
  refine zv_callV (stk := [.int a1, .ref 67]) (as := [.int a1]) (st := []) (k := 67) X zl_RX10_301 zm_X10_weightsOf (k_X10_weightsOf (d := d - 1) (by omega) gq1) (by omega) zb_67 (by rw [zk_67]; rfl) rfl rfl (Nat.le_of_ble_eq_true rfl) (Nat.le_refl _) rfl dX10_joinedTo_2 ?_
  show J 5 [(0, .ref 67), (1, .int a1)] [.int q1.1] 117 zRF q1.2
  refine zv_istore_n (i := 2) (lv' := [(2, .int q1.1), (0, .ref 67), (1, .int a1)]) X dX10_joinedTo_5 rfl (Nat.le_of_ble_eq_true rfl) rfl ?_
  refine zv_iconst (v := (0 : Int32)) X dX10_joinedTo_6 zic_0 ?_
  refine zv_istore_n (i := 3) (lv' := [(3, .int (0 : Int32)), (2, .int q1.1), (0, .ref 67), (1, .int a1)]) X dX10_joinedTo_7 rfl (Nat.le_of_ble_eq_true rfl) rfl ?_
  exact zv_pick X [2, 3, 1, 0] rfl (k_X10_joinedTo_L8 q hd X _ _ _ _ _ e)
-- X10_joined
def s_X10_joined_L27 (b0 : Int32) (h : zHp) : Option (Int32 × zHp) :=
  some (b0, h)
def s_X10_joined (a1 : Int32) (h : zHp) : Option (Int32 × zHp) :=
  (s_X10_in a1 (0 : Int32) ((h.1 67 51) - (1 : Int32)) h).bind fun q1 =>
  if q1.1 = 0 then
    (s_X10_refuse (-1 : Int32) q1.2).bind fun q3 =>
    s_X10_joined_L27 q3.1 q3.2
  else
    (s_X10_joinedTo a1 q1.2).bind fun q4 =>
    s_X10_joined_L27 q4.1 q4.2
set_option maxRecDepth 100000 in
set_option maxHeartbeats 4000000 in
theorem k_X10_joined_L27 {l : Launch} {D : va_G} {cy : Nat → ClassId} {S0 d : Nat} {J : zJ} (q : (Int32 × zHp)) (hd : 4 ≤ d) (X : zOK l D cy S0 d RX10 cX10_joined 2 (yX10_joined.name == "<init>") 117 117 (some .int) (zRT 117 zRF (some (.int q.1)) q.2) J) : ∀ (b0 : Int32) (h : zHp), s_X10_joined_L27 b0 h = some q → J 27 [] [.int b0] 117 zRF h := by
  intro b0 h e
  unfold s_X10_joined_L27 at e
  exact zv_retI X e rfl dX10_joined_27
set_option maxRecDepth 100000 in
set_option maxHeartbeats 4000000 in
theorem k_X10_joined {l : Launch} {D : va_G} {cy : Nat → ClassId} {S0 d : Nat} (hd : 4 ≤ d) {a1 : Int32} {h : zHp} {q : (Int32 × zHp)} (e : s_X10_joined a1 h = some q) : zCT l D cy S0 d yX10_joined cX10_joined 2 (some .int) [.ref 67, .int a1] 117 zRF h (some (.int q.1)) 117 zRF q.2 := by
  unfold s_X10_joined at e
  refine zCT_of RX10 rfl zm_X10_joined (Nat.le_refl _) (Nat.le_of_ble_eq_true rfl) (fun J X => ?_)
  show J 0 [(0, .ref 67), (1, .int a1)] [] 117 zRF h
  refine zv_iload_n X dX10_joined_0 rfl rfl ?_
  refine zv_iconst (v := (0 : Int32)) X dX10_joined_1 zic_0 ?_
  refine zv_aload_n X dX10_joined_2 rfl rfl ?_
  refine zv_getI X zf_RX10_295 zk_67 zb_67 dX10_joined_3 ?_
  refine zv_iconst (v := (1 : Int32)) X dX10_joined_6 zic_1 ?_
  refine zv_isub X dX10_joined_7 ?_
  refine zb e (fun q1 gq1 e => ?_)
  refine zv_callS (stk := [.int ((h.1 67 51) - (1 : Int32)), .int (0 : Int32), .int a1]) (as := [.int a1, .int (0 : Int32), .int ((h.1 67 51) - (1 : Int32))]) (st := []) X zl_RX10_168 zm_X10_in (k_X10_in (d := d - 1) (by omega) gq1) (by omega) rfl (Nat.le_of_ble_eq_true rfl) (Nat.le_refl _) rfl dX10_joined_8 ?_
  show J 11 [(0, .ref 67), (1, .int a1)] [.int q1.1] 117 zRF q1.2
  refine zv_if_eq (tgt := 22) X dX10_joined_11 (by decide) (fun c2 => ?_) (fun c2 => ?_)
  · replace e := zit e c2
    refine zv_aload_n X dX10_joined_22 rfl rfl ?_
    refine zv_iconst (v := (-1 : Int32)) X dX10_joined_23 zic_m1 ?_
    refine zb e (fun q3 gq3 e => ?_)
    refine zv_callV (stk := [.int (-1 : Int32), .ref 67]) (as := [.int (-1 : Int32)]) (st := []) (k := 67) X zl_RX10_175 zm_X10_refuse (k_X10_refuse (d := d - 1) (by omega) gq3) (by omega) zb_67 (by rw [zk_67]; rfl) rfl rfl (Nat.le_of_ble_eq_true rfl) (Nat.le_refl _) rfl dX10_joined_24 ?_
    show J 27 [(0, .ref 67), (1, .int a1)] [.int q3.1] 117 zRF q3.2
    exact zv_pick X [] rfl (k_X10_joined_L27 q hd X _ _ e)
  · replace e := zif e c2
    refine zv_aload_n X dX10_joined_14 rfl rfl ?_
    refine zv_iload_n X dX10_joined_15 rfl rfl ?_
    refine zb e (fun q4 gq4 e => ?_)
    refine zv_callV (stk := [.int a1, .ref 67]) (as := [.int a1]) (st := []) (k := 67) X zl_RX10_306 zm_X10_joinedTo (k_X10_joinedTo (d := d - 1) (by omega) gq4) (by omega) zb_67 (by rw [zk_67]; rfl) rfl rfl (Nat.le_of_ble_eq_true rfl) (Nat.le_refl _) rfl dX10_joined_16 ?_
    show J 19 [(0, .ref 67), (1, .int a1)] [.int q4.1] 117 zRF q4.2
    refine zv_goto (tgt := 27) X dX10_joined_19 (by decide) ?_
    exact zv_pick X [] rfl (k_X10_joined_L27 q hd X _ _ e)
-- X7_changeBegan
def s_X7_changeBegan (a1 : Int32) (a2 : Int32) (h : zHp) : Option (Int32 × zHp) :=
  (zri h 60 6 a1).bind fun v1 =>
  (zui h 60 6 a1 a2).bind fun h2 =>
  some (v1, h2)
set_option maxRecDepth 100000 in
set_option maxHeartbeats 4000000 in
theorem k_X7_changeBegan {l : Launch} {D : va_G} {cy : Nat → ClassId} {S0 d : Nat} (hd : 0 ≤ d) {a1 : Int32} {a2 : Int32} {h : zHp} {q : (Int32 × zHp)} (e : s_X7_changeBegan a1 a2 h = some q) : zCT l D cy S0 d yX7_changeBegan cX7_changeBegan 4 (some .int) [.ref 59, .int a1, .int a2] 117 zRF h (some (.int q.1)) 117 zRF q.2 := by
  unfold s_X7_changeBegan at e
  refine zCT_of RX7 rfl zm_X7_changeBegan (Nat.le_refl _) (Nat.le_of_ble_eq_true rfl) (fun J X => ?_)
  show J 0 [(0, .ref 59), (1, .int a1), (2, .int a2)] [] 117 zRF h
  refine zv_aload_n X dX7_changeBegan_0 rfl rfl ?_
  refine zv_getR X zf_RX7_9 znt_a zk_59 zb_59 zr_59_0 dX7_changeBegan_1 ?_
  refine zv_iload_n X dX7_changeBegan_4 rfl rfl ?_
  refine zb e (fun v1 gv1 e => ?_)
  refine zv_iald X zk_60 zl_60 zb_60 dX7_changeBegan_5 gv1 ?_
  refine zv_istore_n (i := 3) (lv' := [(3, .int v1), (0, .ref 59), (1, .int a1), (2, .int a2)]) X dX7_changeBegan_6 rfl (Nat.le_of_ble_eq_true rfl) rfl ?_
  refine zv_aload_n X dX7_changeBegan_7 rfl rfl ?_
  refine zv_getR X zf_RX7_9 znt_a zk_59 zb_59 zr_59_0 dX7_changeBegan_8 ?_
  refine zv_iload_n X dX7_changeBegan_11 rfl rfl ?_
  refine zv_iload_n X dX7_changeBegan_12 rfl rfl ?_
  refine zb e (fun h2 gh2 e => ?_)
  refine zv_iast X zk_60 zl_60 zb_60 dX7_changeBegan_13 gh2 ?_
  refine zv_iload_n X dX7_changeBegan_14 rfl rfl ?_
  exact zv_retI X e rfl dX7_changeBegan_15

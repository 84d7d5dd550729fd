-- X8_roomOf
def s_X8_roomOf_L34 (k5 : Int32 → Int32 → Int32 → Int32 → zHp → Option (Int32 × zHp)) (a1 : Int32) (a2 : Int32) (a3 : Int32) (a4 : Int32) (h : zHp) : Option (Int32 × zHp) :=
  k5 a1 a2 a3 (a4 + (1 : Int32)) h
def s_X8_roomOf_L5 : Nat → Int32 → Int32 → Int32 → Int32 → zHp → Option (Int32 × zHp)
  | 0, _, _, _, _, _ => none
  | f + 1, a1, a2, a3, a4, h =>
  if (3 : Int32) ≤ a4 then
    some (a3, h)
  else
    if ((a2 >>> (a4 &&& 31)) &&& (1 : Int32)) = 0 then
      s_X8_roomOf_L34 (s_X8_roomOf_L5 f) a1 a2 a3 a4 h
    else
      (zri h 42 15 ((a1 * (3 : Int32)) + a4)).bind fun v3 =>
      (some (a3 + v3)).bind fun v4 =>
      s_X8_roomOf_L34 (s_X8_roomOf_L5 f) a1 a2 v4 a4 h
def s_X8_roomOf (a1 : Int32) (a2 : Int32) (h : zHp) : Option (Int32 × zHp) :=
  s_X8_roomOf_L5 zFU a1 a2 (0 : Int32) (0 : Int32) h
set_option maxRecDepth 100000 in
set_option maxHeartbeats 4000000 in
theorem k_X8_roomOf_L34 {l : Launch} {D : va_G} {cy : Nat → ClassId} {S0 d : Nat} {J : zJ} (q : (Int32 × zHp)) (hd : 0 ≤ d) (X : zOK l D cy S0 d RX8 cX8_roomOf 5 (yX8_roomOf.name == "<init>") 117 117 (some .int) (zRT 117 zRF (some (.int q.1)) q.2) J) {k5 : Int32 → Int32 → Int32 → Int32 → zHp → Option (Int32 × zHp)} (hk5 : ∀ (a1 : Int32) (a2 : Int32) (a3 : Int32) (a4 : Int32) (h : zHp), k5 a1 a2 a3 a4 h = some q → J 5 [(0, .ref 35), (1, .int a1), (2, .int a2), (3, .int a3), (4, .int a4)] [] 117 zRF h) : ∀ (a1 : Int32) (a2 : Int32) (a3 : Int32) (a4 : Int32) (h : zHp), s_X8_roomOf_L34 k5 a1 a2 a3 a4 h = some q → J 34 [(0, .ref 35), (1, .int a1), (2, .int a2), (3, .int a3), (4, .int a4)] [] 117 zRF h := by
  intro a1 a2 a3 a4 h e
  unfold s_X8_roomOf_L34 at e
  refine zv_iinc (k := 4) (v := a4 + (1 : Int32)) (lv' := [(4, .int (a4 + (1 : Int32))), (0, .ref 35), (1, .int a1), (2, .int a2), (3, .int a3)]) X dX8_roomOf_34 rfl rfl (Nat.le_of_ble_eq_true rfl) rfl ?_
  refine zv_goto (tgt := 5) X dX8_roomOf_37 (by decide) ?_
  exact zv_pick X [1, 2, 3, 4, 0] rfl (hk5 _ _ _ _ _ e)
set_option maxRecDepth 100000 in
set_option maxHeartbeats 4000000 in
theorem k_X8_roomOf_L5 {l : Launch} {D : va_G} {cy : Nat → ClassId} {S0 d : Nat} {J : zJ} (q : (Int32 × zHp)) (hd : 0 ≤ d) (X : zOK l D cy S0 d RX8 cX8_roomOf 5 (yX8_roomOf.name == "<init>") 117 117 (some .int) (zRT 117 zRF (some (.int q.1)) q.2) J) : ∀ (f : Nat) (a1 : Int32) (a2 : Int32) (a3 : Int32) (a4 : Int32) (h : zHp), s_X8_roomOf_L5 f a1 a2 a3 a4 h = some q → J 5 [(0, .ref 35), (1, .int a1), (2, .int a2), (3, .int a3), (4, .int a4)] [] 117 zRF h := by
  intro f
  induction f with
  | zero => intro _ _ _ _ h e; exact absurd e (fun z => by cases z)
  | succ f ih =>
    intro a1 a2 a3 a4 h e
    rw [s_X8_roomOf_L5] at e
    refine zv_iload X dX8_roomOf_5 rfl ?_
    refine zv_iconst (v := (3 : Int32)) X dX8_roomOf_7 zic_3 ?_
    refine zv_icmp_ge (tgt := 40) X dX8_roomOf_8 (by decide) (fun c1 => ?_) (fun c1 => ?_)
    · replace e := zit e c1
      refine zv_iload_n X dX8_roomOf_40 rfl rfl ?_
      exact zv_retI X e rfl dX8_roomOf_41
    · replace e := zif e c1
      refine zv_iload_n X dX8_roomOf_11 rfl rfl ?_
      refine zv_iload X dX8_roomOf_12 rfl ?_
      refine zv_ishr X dX8_roomOf_14 ?_
      refine zv_iconst (v := (1 : Int32)) X dX8_roomOf_15 zic_1 ?_
      refine zv_iand X dX8_roomOf_16 ?_
      refine zv_if_eq (tgt := 34) X dX8_roomOf_17 (by decide) (fun c2 => ?_) (fun c2 => ?_)
      · replace e := zit e c2
        exact k_X8_roomOf_L34 q hd X ih _ _ _ _ _ e
      · replace e := zif e c2
        refine zv_iload_n X dX8_roomOf_20 rfl rfl ?_
        refine zv_aload_n X dX8_roomOf_21 rfl rfl ?_
        refine zv_getR X zf_RX8_30 znt_a zk_35 zb_35 zr_35_6 dX8_roomOf_22 ?_
        refine zv_iload_n X dX8_roomOf_25 rfl rfl ?_
        refine zv_iconst (v := (3 : Int32)) X dX8_roomOf_26 zic_3 ?_
        refine zv_imul X dX8_roomOf_27 ?_
        refine zv_iload X dX8_roomOf_28 rfl ?_
        refine zv_iadd X dX8_roomOf_30 ?_
        refine zb e (fun v3 gv3 e => ?_)
        refine zv_iald X zk_42 zl_42 zb_42 dX8_roomOf_31 gv3 ?_
        refine zv_iadd X dX8_roomOf_32 ?_
        refine zb e (fun v4 gv4 e => ?_)
        refine zv_nmI X gv4 ?_
        refine zv_istore_n (i := 3) (lv' := [(3, .int v4), (0, .ref 35), (1, .int a1), (2, .int a2), (4, .int a4)]) X dX8_roomOf_33 rfl (Nat.le_of_ble_eq_true rfl) rfl ?_
        exact zv_pick X [1, 2, 3, 0, 4] rfl (k_X8_roomOf_L34 q hd X ih _ _ _ _ _ e)
set_option maxRecDepth 100000 in
set_option maxHeartbeats 4000000 in
theorem k_X8_roomOf {l : Launch} {D : va_G} {cy : Nat → ClassId} {S0 d : Nat} (hd : 0 ≤ d) {a1 : Int32} {a2 : Int32} {h : zHp} {q : (Int32 × zHp)} (e : s_X8_roomOf a1 a2 h = some q) : zCT l D cy S0 d yX8_roomOf cX8_roomOf 5 (some .int) [.ref 35, .int a1, .int a2] 117 zRF h (some (.int q.1)) 117 zRF q.2 := by
  unfold s_X8_roomOf at e
  refine zCT_of RX8 rfl zm_X8_roomOf (Nat.le_refl _) (Nat.le_of_ble_eq_true rfl) (fun J X => ?_)
  show J 0 [(0, .ref 35), (1, .int a1), (2, .int a2)] [] 117 zRF h
  refine zv_iconst (v := (0 : Int32)) X dX8_roomOf_0 zic_0 ?_
  refine zv_istore_n (i := 3) (lv' := [(3, .int (0 : Int32)), (0, .ref 35), (1, .int a1), (2, .int a2)]) X dX8_roomOf_1 rfl (Nat.le_of_ble_eq_true rfl) rfl ?_
  refine zv_iconst (v := (0 : Int32)) X dX8_roomOf_2 zic_0 ?_
  refine zv_istore (i := 4) (lv' := [(4, .int (0 : Int32)), (3, .int (0 : Int32)), (0, .ref 35), (1, .int a1), (2, .int a2)]) X dX8_roomOf_3 (Nat.le_of_ble_eq_true rfl) rfl ?_
  exact zv_pick X [2, 3, 4, 1, 0] rfl (k_X8_roomOf_L5 q hd X _ _ _ _ _ _ e)
-- X8_barWhatFitsNot
def s_X8_barWhatFitsNot_L57 (k3 : Int32 → Int32 → Int32 → Int32 → zHp → Option zHp) (k24 : Int32 → Int32 → Int32 → Int32 → Int32 → Int32 → zHp → Option zHp) (a1 : Int32) (a2 : Int32) (a3 : Int32) (a4 : Int32) (a5 : Int32) (a6 : Int32) (h : zHp) : Option zHp :=
  (some (a6 + a2)).bind fun v1 =>
  k24 a1 a2 a3 a4 a5 v1 h
def s_X8_barWhatFitsNot_L24 (k3 : Int32 → Int32 → Int32 → Int32 → zHp → Option zHp) : Nat → Int32 → Int32 → Int32 → Int32 → Int32 → Int32 → zHp → Option zHp
  | 0, _, _, _, _, _, _, _ => none
  | f + 1, a1, a2, a3, a4, a5, a6, h =>
  if a3 < a6 then
    k3 a1 a2 a3 (a4 + (1 : Int32)) h
  else
    (zri h 43 512 ((a4 * (64 : Int32)) + a6)).bind fun v2 =>
    if v2 ≤ a5 then
      s_X8_barWhatFitsNot_L57 k3 (s_X8_barWhatFitsNot_L24 k3 f) a1 a2 a3 a4 a5 a6 h
    else
      (zui h 44 64 a6 (536870912 : Int32)).bind fun h4 =>
      s_X8_barWhatFitsNot_L57 k3 (s_X8_barWhatFitsNot_L24 k3 f) a1 a2 a3 a4 a5 a6 h4
def s_X8_barWhatFitsNot_L3 : Nat → Int32 → Int32 → Int32 → Int32 → zHp → Option zHp
  | 0, _, _, _, _, _ => none
  | f + 1, a1, a2, a3, a4, h =>
  if (h.1 35 11) ≤ a4 then
    some h
  else
    (s_X8_roomOf a1 a4 h).bind fun q2 =>
    s_X8_barWhatFitsNot_L24 (s_X8_barWhatFitsNot_L3 f) zFU a1 a2 a3 a4 q2.1 a2 q2.2
def s_X8_barWhatFitsNot (a1 : Int32) (a2 : Int32) (a3 : Int32) (h : zHp) : Option zHp :=
  s_X8_barWhatFitsNot_L3 zFU a1 a2 a3 (0 : Int32) h
set_option maxRecDepth 100000 in
set_option maxHeartbeats 4000000 in
theorem k_X8_barWhatFitsNot_L57 {l : Launch} {D : va_G} {cy : Nat → ClassId} {S0 d : Nat} {J : zJ} (q : zHp) (hd : 1 ≤ d) (X : zOK l D cy S0 d RX8 cX8_barWhatFitsNot 7 (yX8_barWhatFitsNot.name == "<init>") 117 117 none (zRT 117 zRF none q) J) {k3 : Int32 → Int32 → Int32 → Int32 → zHp → Option zHp} (hk3 : ∀ (a1 : Int32) (a2 : Int32) (a3 : Int32) (a4 : Int32) (h : zHp), k3 a1 a2 a3 a4 h = some q → J 3 [(0, .ref 35), (1, .int a1), (2, .int a2), (3, .int a3), (4, .int a4)] [] 117 zRF h) {k24 : Int32 → Int32 → Int32 → Int32 → Int32 → Int32 → zHp → Option zHp} (hk24 : ∀ (a1 : Int32) (a2 : Int32) (a3 : Int32) (a4 : Int32) (a5 : Int32) (a6 : Int32) (h : zHp), k24 a1 a2 a3 a4 a5 a6 h = some q → J 24 [(0, .ref 35), (1, .int a1), (2, .int a2), (3, .int a3), (4, .int a4), (5, .int a5), (6, .int a6)] [] 117 zRF h) : ∀ (a1 : Int32) (a2 : Int32) (a3 : Int32) (a4 : Int32) (a5 : Int32) (a6 : Int32) (h : zHp), s_X8_barWhatFitsNot_L57 k3 k24 a1 a2 a3 a4 a5 a6 h = some q → J 57 [(0, .ref 35), (1, .int a1), (2, .int a2), (3, .int a3), (4, .int a4), (5, .int a5), (6, .int a6)] [] 117 zRF h := by
  intro a1 a2 a3 a4 a5 a6 h e
  unfold s_X8_barWhatFitsNot_L57 at e
  refine zv_iload X dX8_barWhatFitsNot_57 rfl ?_
  refine zv_iload_n X dX8_barWhatFitsNot_59 rfl rfl ?_
  refine zv_iadd X dX8_barWhatFitsNot_60 ?_
  refine zb e (fun v1 gv1 e => ?_)
  refine zv_nmI X gv1 ?_
  refine zv_istore (i := 6) (lv' := [(6, .int v1), (0, .ref 35), (1, .int a1), (2, .int a2), (3, .int a3), (4, .int a4), (5, .int a5)]) X dX8_barWhatFitsNot_61 (Nat.le_of_ble_eq_true rfl) rfl ?_
  refine zv_goto (tgt := 24) X dX8_barWhatFitsNot_63 (by decide) ?_
  exact zv_pick X [1, 2, 3, 4, 5, 6, 0] rfl (hk24 _ _ _ _ _ _ _ e)
set_option maxRecDepth 100000 in
set_option maxHeartbeats 4000000 in
theorem k_X8_barWhatFitsNot_L24 {l : Launch} {D : va_G} {cy : Nat → ClassId} {S0 d : Nat} {J : zJ} (q : zHp) (hd : 1 ≤ d) (X : zOK l D cy S0 d RX8 cX8_barWhatFitsNot 7 (yX8_barWhatFitsNot.name == "<init>") 117 117 none (zRT 117 zRF none q) J) {k3 : Int32 → Int32 → Int32 → Int32 → zHp → Option zHp} (hk3 : ∀ (a1 : Int32) (a2 : Int32) (a3 : Int32) (a4 : Int32) (h : zHp), k3 a1 a2 a3 a4 h = some q → J 3 [(0, .ref 35), (1, .int a1), (2, .int a2), (3, .int a3), (4, .int a4)] [] 117 zRF h) : ∀ (f : Nat) (a1 : Int32) (a2 : Int32) (a3 : Int32) (a4 : Int32) (a5 : Int32) (a6 : Int32) (h : zHp), s_X8_barWhatFitsNot_L24 k3 f a1 a2 a3 a4 a5 a6 h = some q → J 24 [(0, .ref 35), (1, .int a1), (2, .int a2), (3, .int a3), (4, .int a4), (5, .int a5), (6, .int a6)] [] 117 zRF h := by
  intro f
  induction f with
  | zero => intro _ _ _ _ _ _ h e; exact absurd e (fun z => by cases z)
  | succ f ih =>
    intro a1 a2 a3 a4 a5 a6 h e
    rw [s_X8_barWhatFitsNot_L24] at e
    refine zv_iload X dX8_barWhatFitsNot_24 rfl ?_
    refine zv_iload_n X dX8_barWhatFitsNot_26 rfl rfl ?_
    refine zv_icmp_gt (tgt := 66) X dX8_barWhatFitsNot_27 (by decide) (fun c1 => ?_) (fun c1 => ?_)
    · replace e := zit e c1
      refine zv_iinc (k := 4) (v := a4 + (1 : Int32)) (lv' := [(4, .int (a4 + (1 : Int32))), (0, .ref 35), (1, .int a1), (2, .int a2), (3, .int a3), (5, .int a5), (6, .int a6)]) X dX8_barWhatFitsNot_66 rfl rfl (Nat.le_of_ble_eq_true rfl) rfl ?_
      refine zv_goto (tgt := 3) X dX8_barWhatFitsNot_69 (by decide) ?_
      exact zv_pick X [1, 2, 3, 4, 0] rfl (hk3 _ _ _ _ _ e)
    · replace e := zif e c1
      refine zv_aload_n X dX8_barWhatFitsNot_30 rfl rfl ?_
      refine zv_getR X zf_RX8_33 znt_a zk_35 zb_35 zr_35_7 dX8_barWhatFitsNot_31 ?_
      refine zv_iload X dX8_barWhatFitsNot_34 rfl ?_
      refine zv_bipush (v := (64 : Int32)) X dX8_barWhatFitsNot_36 zbp_64 ?_
      refine zv_imul X dX8_barWhatFitsNot_38 ?_
      refine zv_iload X dX8_barWhatFitsNot_39 rfl ?_
      refine zv_iadd X dX8_barWhatFitsNot_41 ?_
      refine zb e (fun v2 gv2 e => ?_)
      refine zv_iald X zk_43 zl_43 zb_43 dX8_barWhatFitsNot_42 gv2 ?_
      refine zv_iload X dX8_barWhatFitsNot_43 rfl ?_
      refine zv_icmp_le (tgt := 57) X dX8_barWhatFitsNot_45 (by decide) (fun c3 => ?_) (fun c3 => ?_)
      · replace e := zit e c3
        exact k_X8_barWhatFitsNot_L57 q hd X hk3 ih _ _ _ _ _ _ _ e
      · replace e := zif e c3
        refine zv_aload_n X dX8_barWhatFitsNot_48 rfl rfl ?_
        refine zv_getR X zf_RX8_36 znt_a zk_35 zb_35 zr_35_8 dX8_barWhatFitsNot_49 ?_
        refine zv_iload X dX8_barWhatFitsNot_52 rfl ?_
        refine zv_ldc (v := (536870912 : Int32)) X zc_RX8_107 dX8_barWhatFitsNot_54 ?_
        refine zb e (fun h4 gh4 e => ?_)
        refine zv_iast X zk_44 zl_44 zb_44 dX8_barWhatFitsNot_56 gh4 ?_
        exact k_X8_barWhatFitsNot_L57 q hd X hk3 ih _ _ _ _ _ _ _ e
set_option maxRecDepth 100000 in
set_option maxHeartbeats 4000000 in
theorem k_X8_barWhatFitsNot_L3 {l : Launch} {D : va_G} {cy : Nat → ClassId} {S0 d : Nat} {J : zJ} (q : zHp) (hd : 1 ≤ d) (X : zOK l D cy S0 d RX8 cX8_barWhatFitsNot 7 (yX8_barWhatFitsNot.name == "<init>") 117 117 none (zRT 117 zRF none q) J) : ∀ (f : Nat) (a1 : Int32) (a2 : Int32) (a3 : Int32) (a4 : Int32) (h : zHp), s_X8_barWhatFitsNot_L3 f a1 a2 a3 a4 h = some q → J 3 [(0, .ref 35), (1, .int a1), (2, .int a2), (3, .int a3), (4, .int a4)] [] 117 zRF h := by
  intro f
  induction f with
  | zero => intro _ _ _ _ h e; exact absurd e (fun z => by cases z)
  | succ f ih =>
    intro a1 a2 a3 a4 h e
    rw [s_X8_barWhatFitsNot_L3] at e
    refine zv_iload X dX8_barWhatFitsNot_3 rfl ?_
    refine zv_aload_n X dX8_barWhatFitsNot_5 rfl rfl ?_
    refine zv_getI X zf_RX8_46 zk_35 zb_35 dX8_barWhatFitsNot_6 ?_
    refine zv_icmp_ge (tgt := 72) X dX8_barWhatFitsNot_9 (by decide) (fun c1 => ?_) (fun c1 => ?_)
    · replace e := zit e c1
      exact zv_retV X e rfl dX8_barWhatFitsNot_72
    · replace e := zif e c1
      refine zv_aload_n X dX8_barWhatFitsNot_12 rfl rfl ?_
      refine zv_iload_n X dX8_barWhatFitsNot_13 rfl rfl ?_
      refine zv_iload X dX8_barWhatFitsNot_14 rfl ?_
      refine zb e (fun q2 gq2 e => ?_)
      refine zv_callV (stk := [.int a4, .int a1, .ref 35]) (as := [.int a1, .int a4]) (st := []) (k := 35) X zl_RX8_104 zm_X8_roomOf (k_X8_roomOf (d := d - 1) (by omega) gq2) (by omega) zb_35 (by rw [zk_35]; rfl) rfl rfl (Nat.le_of_ble_eq_true rfl) (Nat.le_refl _) rfl dX8_barWhatFitsNot_16 ?_
      show J 19 [(0, .ref 35), (1, .int a1), (2, .int a2), (3, .int a3), (4, .int a4)] [.int q2.1] 117 zRF q2.2
      refine zv_istore (i := 5) (lv' := [(5, .int q2.1), (0, .ref 35), (1, .int a1), (2, .int a2), (3, .int a3), (4, .int a4)]) X dX8_barWhatFitsNot_19 (Nat.le_of_ble_eq_true rfl) rfl ?_
      refine zv_iload_n X dX8_barWhatFitsNot_21 rfl rfl ?_
      refine zv_istore (i := 6) (lv' := [(6, .int a2), (5, .int q2.1), (0, .ref 35), (1, .int a1), (2, .int a2), (3, .int a3), (4, .int a4)]) X dX8_barWhatFitsNot_22 (Nat.le_of_ble_eq_true rfl) rfl ?_
      exact zv_pick X [2, 3, 4, 5, 6, 1, 0] rfl (k_X8_barWhatFitsNot_L24 q hd X ih _ _ _ _ _ _ _ _ e)
set_option maxRecDepth 100000 in
set_option maxHeartbeats 4000000 in
theorem k_X8_barWhatFitsNot {l : Launch} {D : va_G} {cy : Nat → ClassId} {S0 d : Nat} (hd : 1 ≤ d) {a1 : Int32} {a2 : Int32} {a3 : Int32} {h : zHp} {q : zHp} (e : s_X8_barWhatFitsNot a1 a2 a3 h = some q) : zCT l D cy S0 d yX8_barWhatFitsNot cX8_barWhatFitsNot 7 none [.ref 35, .int a1, .int a2, .int a3] 117 zRF h none 117 zRF q := by
  unfold s_X8_barWhatFitsNot at e
  refine zCT_of RX8 rfl zm_X8_barWhatFitsNot (Nat.le_refl _) (Nat.le_of_ble_eq_true rfl) (fun J X => ?_)
  show J 0 [(0, .ref 35), (1, .int a1), (2, .int a2), (3, .int a3)] [] 117 zRF h
  refine zv_iconst (v := (0 : Int32)) X dX8_barWhatFitsNot_0 zic_0 ?_
  refine zv_istore (i := 4) (lv' := [(4, .int (0 : Int32)), (0, .ref 35), (1, .int a1), (2, .int a2), (3, .int a3)]) X dX8_barWhatFitsNot_1 (Nat.le_of_ble_eq_true rfl) rfl ?_
  exact zv_pick X [1, 2, 3, 4, 0] rfl (k_X8_barWhatFitsNot_L3 q hd X _ _ _ _ _ _ e)
-- X8_leastWithDay
def s_X8_leastWithDay_L55 (a2 : Int32) (h : zHp) : Option (Int32 × zHp) :=
  some (a2, h)
def s_X8_leastWithDay_L12 : Nat → Int32 → Int32 → Int32 → Int32 → zHp → Option (Int32 × zHp)
  | 0, _, _, _, _, _ => none
  | f + 1, a1, a2, a3, a4, h =>
  if (64 : Int32) ≤ a4 then
    s_X8_leastWithDay_L55 a2 h
  else
    if a3 = 0 then
      s_X8_leastWithDay_L55 a2 h
    else
      (zri h 44 64 a3).bind fun v3 =>
      (zri h 45 64 (a1 ^^^ a3)).bind fun v4 =>
      (s_J9_min_7cf53 a2 (v3 + v4) h).bind fun q5 =>
      (some ((a3 - (1 : Int32)) &&& a1)).bind fun v6 =>
      s_X8_leastWithDay_L12 f a1 q5.1 v6 (a4 + (1 : Int32)) q5.2
def s_X8_leastWithDay (a1 : Int32) (h : zHp) : Option (Int32 × zHp) :=
  (zri h 45 64 a1).bind fun v1 =>
  s_X8_leastWithDay_L12 zFU a1 v1 a1 (0 : Int32) h
set_option maxRecDepth 100000 in
set_option maxHeartbeats 4000000 in
theorem k_X8_leastWithDay_L55 {l : Launch} {D : va_G} {cy : Nat → ClassId} {S0 d : Nat} {J : zJ} (q : (Int32 × zHp)) (hd : 1 ≤ d) (X : zOK l D cy S0 d RX8 cX8_leastWithDay 5 (yX8_leastWithDay.name == "<init>") 117 117 (some .int) (zRT 117 zRF (some (.int q.1)) q.2) J) : ∀ (a2 : Int32) (h : zHp), s_X8_leastWithDay_L55 a2 h = some q → J 55 [(2, .int a2)] [] 117 zRF h := by
  intro a2 h e
  unfold s_X8_leastWithDay_L55 at e
  refine zv_iload_n X dX8_leastWithDay_55 rfl rfl ?_
  exact zv_retI X e rfl dX8_leastWithDay_56
set_option maxRecDepth 100000 in
set_option maxHeartbeats 4000000 in
theorem k_X8_leastWithDay_L12 {l : Launch} {D : va_G} {cy : Nat → ClassId} {S0 d : Nat} {J : zJ} (q : (Int32 × zHp)) (hd : 1 ≤ d) (X : zOK l D cy S0 d RX8 cX8_leastWithDay 5 (yX8_leastWithDay.name == "<init>") 117 117 (some .int) (zRT 117 zRF (some (.int q.1)) q.2) J) : ∀ (f : Nat) (a1 : Int32) (a2 : Int32) (a3 : Int32) (a4 : Int32) (h : zHp), s_X8_leastWithDay_L12 f a1 a2 a3 a4 h = some q → J 12 [(0, .ref 35), (1, .int a1), (2, .int a2), (3, .int a3), (4, .int a4)] [] 117 zRF h := by
  intro f
  induction f with
  | zero => intro _ _ _ _ h e; exact absurd e (fun z => by cases z)
  | succ f ih =>
    intro a1 a2 a3 a4 h e
    rw [s_X8_leastWithDay_L12] at e
    refine zv_iload X dX8_leastWithDay_12 rfl ?_
    refine zv_bipush (v := (64 : Int32)) X dX8_leastWithDay_14 zbp_64 ?_
    refine zv_icmp_ge (tgt := 55) X dX8_leastWithDay_16 (by decide) (fun c1 => ?_) (fun c1 => ?_)
    · replace e := zit e c1
      exact zv_pick X [2] rfl (k_X8_leastWithDay_L55 q hd X _ _ e)
    · replace e := zif e c1
      refine zv_iload_n X dX8_leastWithDay_19 rfl rfl ?_
      refine zv_if_eq (tgt := 55) X dX8_leastWithDay_20 (by decide) (fun c2 => ?_) (fun c2 => ?_)
      · replace e := zit e c2
        exact zv_pick X [2] rfl (k_X8_leastWithDay_L55 q hd X _ _ e)
      · replace e := zif e c2
        refine zv_iload_n X dX8_leastWithDay_23 rfl rfl ?_
        refine zv_aload_n X dX8_leastWithDay_24 rfl rfl ?_
        refine zv_getR X zf_RX8_36 znt_a zk_35 zb_35 zr_35_8 dX8_leastWithDay_25 ?_
        refine zv_iload_n X dX8_leastWithDay_28 rfl rfl ?_
        refine zb e (fun v3 gv3 e => ?_)
        refine zv_iald X zk_44 zl_44 zb_44 dX8_leastWithDay_29 gv3 ?_
        refine zv_aload_n X dX8_leastWithDay_30 rfl rfl ?_
        refine zv_getR X zf_RX8_39 znt_a zk_35 zb_35 zr_35_9 dX8_leastWithDay_31 ?_
        refine zv_iload_n X dX8_leastWithDay_34 rfl rfl ?_
        refine zv_iload_n X dX8_leastWithDay_35 rfl rfl ?_
        refine zv_ixor X dX8_leastWithDay_36 ?_
        refine zb e (fun v4 gv4 e => ?_)
        refine zv_iald X zk_45 zl_45 zb_45 dX8_leastWithDay_37 gv4 ?_
        refine zv_iadd X dX8_leastWithDay_38 ?_
        refine zb e (fun q5 gq5 e => ?_)
        refine zv_callS (stk := [.int (v3 + v4), .int a2]) (as := [.int a2, .int (v3 + v4)]) (st := []) X zl_RX8_49 zm_J9_min_7cf53 (k_J9_min_7cf53 (d := d - 1) (by omega) gq5) (by omega) rfl (Nat.le_of_ble_eq_true rfl) (Nat.le_refl _) rfl dX8_leastWithDay_39 ?_
        show J 42 [(0, .ref 35), (1, .int a1), (2, .int a2), (3, .int a3), (4, .int a4)] [.int q5.1] 117 zRF q5.2
        refine zv_istore_n (i := 2) (lv' := [(2, .int q5.1), (0, .ref 35), (1, .int a1), (3, .int a3), (4, .int a4)]) X dX8_leastWithDay_42 rfl (Nat.le_of_ble_eq_true rfl) rfl ?_
        refine zv_iload_n X dX8_leastWithDay_43 rfl rfl ?_
        refine zv_iconst (v := (1 : Int32)) X dX8_leastWithDay_44 zic_1 ?_
        refine zv_isub X dX8_leastWithDay_45 ?_
        refine zv_iload_n X dX8_leastWithDay_46 rfl rfl ?_
        refine zv_iand X dX8_leastWithDay_47 ?_
        refine zb e (fun v6 gv6 e => ?_)
        refine zv_nmI X gv6 ?_
        refine zv_istore_n (i := 3) (lv' := [(3, .int v6), (2, .int q5.1), (0, .ref 35), (1, .int a1), (4, .int a4)]) X dX8_leastWithDay_48 rfl (Nat.le_of_ble_eq_true rfl) rfl ?_
        refine zv_iinc (k := 4) (v := a4 + (1 : Int32)) (lv' := [(4, .int (a4 + (1 : Int32))), (3, .int v6), (2, .int q5.1), (0, .ref 35), (1, .int a1)]) X dX8_leastWithDay_49 rfl rfl (Nat.le_of_ble_eq_true rfl) rfl ?_
        refine zv_goto (tgt := 12) X dX8_leastWithDay_52 (by decide) ?_
        exact zv_pick X [3, 4, 2, 1, 0] rfl (ih _ _ _ _ _ e)
set_option maxRecDepth 100000 in
set_option maxHeartbeats 4000000 in
theorem k_X8_leastWithDay {l : Launch} {D : va_G} {cy : Nat → ClassId} {S0 d : Nat} (hd : 1 ≤ d) {a1 : Int32} {h : zHp} {q : (Int32 × zHp)} (e : s_X8_leastWithDay a1 h = some q) : zCT l D cy S0 d yX8_leastWithDay cX8_leastWithDay 5 (some .int) [.ref 35, .int a1] 117 zRF h (some (.int q.1)) 117 zRF q.2 := by
  unfold s_X8_leastWithDay at e
  refine zCT_of RX8 rfl zm_X8_leastWithDay (Nat.le_refl _) (Nat.le_of_ble_eq_true rfl) (fun J X => ?_)
  show J 0 [(0, .ref 35), (1, .int a1)] [] 117 zRF h
  refine zv_aload_n X dX8_leastWithDay_0 rfl rfl ?_
  refine zv_getR X zf_RX8_39 znt_a zk_35 zb_35 zr_35_9 dX8_leastWithDay_1 ?_
  refine zv_iload_n X dX8_leastWithDay_4 rfl rfl ?_
  refine zb e (fun v1 gv1 e => ?_)
  refine zv_iald X zk_45 zl_45 zb_45 dX8_leastWithDay_5 gv1 ?_
  refine zv_istore_n (i := 2) (lv' := [(2, .int v1), (0, .ref 35), (1, .int a1)]) X dX8_leastWithDay_6 rfl (Nat.le_of_ble_eq_true rfl) rfl ?_
  refine zv_iload_n X dX8_leastWithDay_7 rfl rfl ?_
  refine zv_istore_n (i := 3) (lv' := [(3, .int a1), (2, .int v1), (0, .ref 35), (1, .int a1)]) X dX8_leastWithDay_8 rfl (Nat.le_of_ble_eq_true rfl) rfl ?_
  refine zv_iconst (v := (0 : Int32)) X dX8_leastWithDay_9 zic_0 ?_
  refine zv_istore (i := 4) (lv' := [(4, .int (0 : Int32)), (3, .int a1), (2, .int v1), (0, .ref 35), (1, .int a1)]) X dX8_leastWithDay_10 (Nat.le_of_ble_eq_true rfl) rfl ?_
  exact zv_pick X [3, 4, 2, 1, 0] rfl (k_X8_leastWithDay_L12 q hd X _ _ _ _ _ _ e)
-- X8_leastFrom
def s_X8_leastFrom_L53 (k26 : Int32 → Int32 → Int32 → Int32 → zHp → Option (Int32 × zHp)) : Nat → Int32 → Int32 → Int32 → Int32 → Int32 → zHp → Option (Int32 × zHp)
  | 0, _, _, _, _, _, _ => none
  | f + 1, a1, a2, a3, a4, a5, h =>
  if a5 ≤ 0 then
    k26 a1 a2 a3 (a4 + (-1 : Int32)) h
  else
    (s_X8_leastWithDay a5 h).bind fun q2 =>
    (zui q2.2 45 64 a5 q2.1).bind fun h3 =>
    (some (a5 - a2)).bind fun v4 =>
    s_X8_leastFrom_L53 k26 f a1 a2 a3 a4 v4 h3
def s_X8_leastFrom_L26 : Nat → Int32 → Int32 → Int32 → Int32 → zHp → Option (Int32 × zHp)
  | 0, _, _, _, _, _ => none
  | f + 1, a1, a2, a3, a4, h =>
  if a4 < 0 then
    (zri h 45 64 a3).bind fun v2 =>
    some (v2, h)
  else
    (s_X8_fillSums_44 a1 a4 h).bind fun q3 =>
    (s_X8_barWhatFitsNot a4 a2 a3 q3).bind fun q4 =>
    s_X8_leastFrom_L53 (s_X8_leastFrom_L26 f) zFU a1 a2 a3 a4 a3 q4
def s_X8_leastFrom (a1 : Int32) (h : zHp) : Option (Int32 × zHp) :=
  (some ((1 : Int32) <<< (a1 &&& 31))).bind fun v1 =>
  (some (((1 : Int32) <<< ((h.1 35 10) &&& 31)) - v1)).bind fun v2 =>
  (s_X8_fillSums_45 a1 (5 : Int32) h).bind fun q3 =>
  s_X8_leastFrom_L26 zFU a1 v1 v2 (4 : Int32) q3
set_option maxRecDepth 100000 in
set_option maxHeartbeats 4000000 in
theorem k_X8_leastFrom_L53 {l : Launch} {D : va_G} {cy : Nat → ClassId} {S0 d : Nat} {J : zJ} (q : (Int32 × zHp)) (hd : 2 ≤ d) (X : zOK l D cy S0 d RX8 cX8_leastFrom 6 (yX8_leastFrom.name == "<init>") 117 117 (some .int) (zRT 117 zRF (some (.int q.1)) q.2) J) {k26 : Int32 → Int32 → Int32 → Int32 → zHp → Option (Int32 × zHp)} (hk26 : ∀ (a1 : Int32) (a2 : Int32) (a3 : Int32) (a4 : Int32) (h : zHp), k26 a1 a2 a3 a4 h = some q → J 26 [(0, .ref 35), (1, .int a1), (2, .int a2), (3, .int a3), (4, .int a4)] [] 117 zRF h) : ∀ (f : Nat) (a1 : Int32) (a2 : Int32) (a3 : Int32) (a4 : Int32) (a5 : Int32) (h : zHp), s_X8_leastFrom_L53 k26 f a1 a2 a3 a4 a5 h = some q → J 53 [(0, .ref 35), (1, .int a1), (2, .int a2), (3, .int a3), (4, .int a4), (5, .int a5)] [] 117 zRF h := by
  intro f
  induction f with
  | zero => intro _ _ _ _ _ h e; exact absurd e (fun z => by cases z)
  | succ f ih =>
    intro a1 a2 a3 a4 a5 h e
    rw [s_X8_leastFrom_L53] at e
    refine zv_iload X dX8_leastFrom_53 rfl ?_
    refine zv_if_le (tgt := 80) X dX8_leastFrom_55 (by decide) (fun c1 => ?_) (fun c1 => ?_)
    · replace e := zit e c1
      refine zv_iinc (k := 4) (v := a4 + (-1 : Int32)) (lv' := [(4, .int (a4 + (-1 : Int32))), (0, .ref 35), (1, .int a1), (2, .int a2), (3, .int a3), (5, .int a5)]) X dX8_leastFrom_80 rfl rfl (Nat.le_of_ble_eq_true rfl) rfl ?_
      refine zv_goto (tgt := 26) X dX8_leastFrom_83 (by decide) ?_
      exact zv_pick X [1, 2, 3, 4, 0] rfl (hk26 _ _ _ _ _ e)
    · replace e := zif e c1
      refine zv_aload_n X dX8_leastFrom_58 rfl rfl ?_
      refine zv_getR X zf_RX8_39 znt_a zk_35 zb_35 zr_35_9 dX8_leastFrom_59 ?_
      refine zv_iload X dX8_leastFrom_62 rfl ?_
      refine zv_aload_n X dX8_leastFrom_64 rfl rfl ?_
      refine zv_iload X dX8_leastFrom_65 rfl ?_
      refine zb e (fun q2 gq2 e => ?_)
      refine zv_callV (stk := [.int a5, .ref 35, .int a5, .ref 45]) (as := [.int a5]) (st := [.int a5, .ref 45]) (k := 35) X zl_RX8_101 zm_X8_leastWithDay (k_X8_leastWithDay (d := d - 1) (by omega) gq2) (by omega) zb_35 (by rw [zk_35]; rfl) rfl rfl (Nat.le_of_ble_eq_true rfl) (Nat.le_refl _) rfl dX8_leastFrom_67 ?_
      show J 70 [(0, .ref 35), (1, .int a1), (2, .int a2), (3, .int a3), (4, .int a4), (5, .int a5)] [.int q2.1, .int a5, .ref 45] 117 zRF q2.2
      refine zb e (fun h3 gh3 e => ?_)
      refine zv_iast X zk_45 zl_45 zb_45 dX8_leastFrom_70 gh3 ?_
      refine zv_iload X dX8_leastFrom_71 rfl ?_
      refine zv_iload_n X dX8_leastFrom_73 rfl rfl ?_
      refine zv_isub X dX8_leastFrom_74 ?_
      refine zb e (fun v4 gv4 e => ?_)
      refine zv_nmI X gv4 ?_
      refine zv_istore (i := 5) (lv' := [(5, .int v4), (0, .ref 35), (1, .int a1), (2, .int a2), (3, .int a3), (4, .int a4)]) X dX8_leastFrom_75 (Nat.le_of_ble_eq_true rfl) rfl ?_
      refine zv_goto (tgt := 53) X dX8_leastFrom_77 (by decide) ?_
      exact zv_pick X [1, 2, 3, 4, 5, 0] rfl (ih _ _ _ _ _ _ e)
set_option maxRecDepth 100000 in
set_option maxHeartbeats 4000000 in
theorem k_X8_leastFrom_L26 {l : Launch} {D : va_G} {cy : Nat → ClassId} {S0 d : Nat} {J : zJ} (q : (Int32 × zHp)) (hd : 2 ≤ d) (X : zOK l D cy S0 d RX8 cX8_leastFrom 6 (yX8_leastFrom.name == "<init>") 117 117 (some .int) (zRT 117 zRF (some (.int q.1)) q.2) J) : ∀ (f : Nat) (a1 : Int32) (a2 : Int32) (a3 : Int32) (a4 : Int32) (h : zHp), s_X8_leastFrom_L26 f a1 a2 a3 a4 h = some q → J 26 [(0, .ref 35), (1, .int a1), (2, .int a2), (3, .int a3), (4, .int a4)] [] 117 zRF h := by
  intro f
  induction f with
  | zero => intro _ _ _ _ h e; exact absurd e (fun z => by cases z)
  | succ f ih =>
    intro a1 a2 a3 a4 h e
    rw [s_X8_leastFrom_L26] at e
    refine zv_iload X dX8_leastFrom_26 rfl ?_
    refine zv_if_lt (tgt := 86) X dX8_leastFrom_28 (by decide) (fun c1 => ?_) (fun c1 => ?_)
    · replace e := zit e c1
      refine zv_aload_n X dX8_leastFrom_86 rfl rfl ?_
      refine zv_getR X zf_RX8_39 znt_a zk_35 zb_35 zr_35_9 dX8_leastFrom_87 ?_
      refine zv_iload_n X dX8_leastFrom_90 rfl rfl ?_
      refine zb e (fun v2 gv2 e => ?_)
      refine zv_iald X zk_45 zl_45 zb_45 dX8_leastFrom_91 gv2 ?_
      exact zv_retI X e rfl dX8_leastFrom_92
    · replace e := zif e c1
      refine zv_aload_n X dX8_leastFrom_31 rfl rfl ?_
      refine zv_aload_n X dX8_leastFrom_32 rfl rfl ?_
      refine zv_getR X zf_RX8_36 znt_a zk_35 zb_35 zr_35_8 dX8_leastFrom_33 ?_
      refine zv_iload_n X dX8_leastFrom_36 rfl rfl ?_
      refine zv_iload X dX8_leastFrom_37 rfl ?_
      refine zb e (fun q3 gq3 e => ?_)
      refine zv_callV (stk := [.int a4, .int a1, .ref 44, .ref 35]) (as := [.ref 44, .int a1, .int a4]) (st := []) (k := 35) X zl_RX8_94 zm_X8_fillSums (k_X8_fillSums_44 (d := d - 1) (by omega) gq3) (by omega) zb_35 (by rw [zk_35]; rfl) rfl rfl (Nat.le_of_ble_eq_true rfl) (Nat.le_refl _) rfl dX8_leastFrom_39 ?_
      show J 42 [(0, .ref 35), (1, .int a1), (2, .int a2), (3, .int a3), (4, .int a4)] [] 117 zRF q3
      refine zv_aload_n X dX8_leastFrom_42 rfl rfl ?_
      refine zv_iload X dX8_leastFrom_43 rfl ?_
      refine zv_iload_n X dX8_leastFrom_45 rfl rfl ?_
      refine zv_iload_n X dX8_leastFrom_46 rfl rfl ?_
      refine zb e (fun q4 gq4 e => ?_)
      refine zv_callV (stk := [.int a3, .int a2, .int a4, .ref 35]) (as := [.int a4, .int a2, .int a3]) (st := []) (k := 35) X zl_RX8_98 zm_X8_barWhatFitsNot (k_X8_barWhatFitsNot (d := d - 1) (by omega) gq4) (by omega) zb_35 (by rw [zk_35]; rfl) rfl rfl (Nat.le_of_ble_eq_true rfl) (Nat.le_refl _) rfl dX8_leastFrom_47 ?_
      show J 50 [(0, .ref 35), (1, .int a1), (2, .int a2), (3, .int a3), (4, .int a4)] [] 117 zRF q4
      refine zv_iload_n X dX8_leastFrom_50 rfl rfl ?_
      refine zv_istore (i := 5) (lv' := [(5, .int a3), (0, .ref 35), (1, .int a1), (2, .int a2), (3, .int a3), (4, .int a4)]) X dX8_leastFrom_51 (Nat.le_of_ble_eq_true rfl) rfl ?_
      exact zv_pick X [1, 2, 3, 4, 5, 0] rfl (k_X8_leastFrom_L53 q hd X ih _ _ _ _ _ _ _ e)
set_option maxRecDepth 100000 in
set_option maxHeartbeats 4000000 in
theorem k_X8_leastFrom {l : Launch} {D : va_G} {cy : Nat → ClassId} {S0 d : Nat} (hd : 2 ≤ d) {a1 : Int32} {h : zHp} {q : (Int32 × zHp)} (e : s_X8_leastFrom a1 h = some q) : zCT l D cy S0 d yX8_leastFrom cX8_leastFrom 6 (some .int) [.ref 35, .int a1] 117 zRF h (some (.int q.1)) 117 zRF q.2 := by
  unfold s_X8_leastFrom at e
  refine zCT_of RX8 rfl zm_X8_leastFrom (Nat.le_refl _) (Nat.le_of_ble_eq_true rfl) (fun J X => ?_)
  show J 0 [(0, .ref 35), (1, .int a1)] [] 117 zRF h
  refine zv_iconst (v := (1 : Int32)) X dX8_leastFrom_0 zic_1 ?_
  refine zv_iload_n X dX8_leastFrom_1 rfl rfl ?_
  refine zv_ishl X dX8_leastFrom_2 ?_
  refine zb e (fun v1 gv1 e => ?_)
  refine zv_nmI X gv1 ?_
  refine zv_istore_n (i := 2) (lv' := [(2, .int v1), (0, .ref 35), (1, .int a1)]) X dX8_leastFrom_3 rfl (Nat.le_of_ble_eq_true rfl) rfl ?_
  refine zv_iconst (v := (1 : Int32)) X dX8_leastFrom_4 zic_1 ?_
  refine zv_aload_n X dX8_leastFrom_5 rfl rfl ?_
  refine zv_getI X zf_RX8_42 zk_35 zb_35 dX8_leastFrom_6 ?_
  refine zv_ishl X dX8_leastFrom_9 ?_
  refine zv_iload_n X dX8_leastFrom_10 rfl rfl ?_
  refine zv_isub X dX8_leastFrom_11 ?_
  refine zb e (fun v2 gv2 e => ?_)
  refine zv_nmI X gv2 ?_
  refine zv_istore_n (i := 3) (lv' := [(3, .int v2), (2, .int v1), (0, .ref 35), (1, .int a1)]) X dX8_leastFrom_12 rfl (Nat.le_of_ble_eq_true rfl) rfl ?_
  refine zv_aload_n X dX8_leastFrom_13 rfl rfl ?_
  refine zv_aload_n X dX8_leastFrom_14 rfl rfl ?_
  refine zv_getR X zf_RX8_39 znt_a zk_35 zb_35 zr_35_9 dX8_leastFrom_15 ?_
  refine zv_iload_n X dX8_leastFrom_18 rfl rfl ?_
  refine zv_iconst (v := (5 : Int32)) X dX8_leastFrom_19 zic_5 ?_
  refine zb e (fun q3 gq3 e => ?_)
  refine zv_callV (stk := [.int (5 : Int32), .int a1, .ref 45, .ref 35]) (as := [.ref 45, .int a1, .int (5 : Int32)]) (st := []) (k := 35) X zl_RX8_94 zm_X8_fillSums (k_X8_fillSums_45 (d := d - 1) (by omega) gq3) (by omega) zb_35 (by rw [zk_35]; rfl) rfl rfl (Nat.le_of_ble_eq_true rfl) (Nat.le_refl _) rfl dX8_leastFrom_20 ?_
  show J 23 [(3, .int v2), (2, .int v1), (0, .ref 35), (1, .int a1)] [] 117 zRF q3
  refine zv_iconst (v := (4 : Int32)) X dX8_leastFrom_23 zic_4 ?_
  refine zv_istore (i := 4) (lv' := [(4, .int (4 : Int32)), (3, .int v2), (2, .int v1), (0, .ref 35), (1, .int a1)]) X dX8_leastFrom_24 (Nat.le_of_ble_eq_true rfl) rfl ?_
  exact zv_pick X [3, 4, 2, 1, 0] rfl (k_X8_leastFrom_L26 q hd X _ _ _ _ _ _ e)
-- X8_mayTake
def s_X8_mayTake_L26  (h : zHp) : Option (Int32 × zHp) :=
  some ((0 : Int32), h)
def s_X8_mayTake_L63 (k31 : Int32 → Int32 → Int32 → zHp → Option (Int32 × zHp)) (a2 : Int32) (a3 : Int32) (a4 : Int32) (h : zHp) : Option (Int32 × zHp) :=
  k31 a2 a3 (a4 + (1 : Int32)) h
def s_X8_mayTake_L31 : Nat → Int32 → Int32 → Int32 → zHp → Option (Int32 × zHp)
  | 0, _, _, _, _ => none
  | f + 1, a2, a3, a4, h =>
  if (3 : Int32) ≤ a4 then
    some ((1 : Int32), h)
  else
    if ((a3 >>> (a4 &&& 31)) &&& (1 : Int32)) = 0 then
      s_X8_mayTake_L63 (s_X8_mayTake_L31 f) a2 a3 a4 h
    else
      (zri h 42 15 ((a2 * (3 : Int32)) + a4)).bind fun v3 =>
      if (1 : Int32) ≤ v3 then
        s_X8_mayTake_L63 (s_X8_mayTake_L31 f) a2 a3 a4 h
      else
        some ((0 : Int32), h)
def s_X8_mayTake (a1 : Int32) (a2 : Int32) (a3 : Int32) (h : zHp) : Option (Int32 × zHp) :=
  (zri h 38 6 a1).bind fun v1 =>
  if (a3 &&& (v1 ^^^ (-1 : Int32))) = 0 then
    (s_J6_bitCount_0f7a4 a3 h).bind fun q3 =>
    (zri q3.2 37 6 a1).bind fun v4 =>
    if q3.1 = v4 then
      s_X8_mayTake_L31 zFU a2 a3 (0 : Int32) q3.2
    else
      s_X8_mayTake_L26 q3.2
  else
    s_X8_mayTake_L26 h
set_option maxRecDepth 100000 in
set_option maxHeartbeats 4000000 in
theorem k_X8_mayTake_L26 {l : Launch} {D : va_G} {cy : Nat → ClassId} {S0 d : Nat} {J : zJ} (q : (Int32 × zHp)) (hd : 1 ≤ d) (X : zOK l D cy S0 d RX8 cX8_mayTake 5 (yX8_mayTake.name == "<init>") 117 117 (some .boolean) (zRT 117 zRF (some (.int q.1)) q.2) J) : ∀  (h : zHp), s_X8_mayTake_L26  h = some q → J 26 [] [] 117 zRF h := by
  intro  h e
  unfold s_X8_mayTake_L26 at e
  refine zv_iconst (v := (0 : Int32)) X dX8_mayTake_26 zic_0 ?_
  exact zv_retZ X e rfl zbo_0 dX8_mayTake_27
set_option maxRecDepth 100000 in
set_option maxHeartbeats 4000000 in
theorem k_X8_mayTake_L63 {l : Launch} {D : va_G} {cy : Nat → ClassId} {S0 d : Nat} {J : zJ} (q : (Int32 × zHp)) (hd : 1 ≤ d) (X : zOK l D cy S0 d RX8 cX8_mayTake 5 (yX8_mayTake.name == "<init>") 117 117 (some .boolean) (zRT 117 zRF (some (.int q.1)) q.2) J) {k31 : Int32 → Int32 → Int32 → zHp → Option (Int32 × zHp)} (hk31 : ∀ (a2 : Int32) (a3 : Int32) (a4 : Int32) (h : zHp), k31 a2 a3 a4 h = some q → J 31 [(0, .ref 35), (2, .int a2), (3, .int a3), (4, .int a4)] [] 117 zRF h) : ∀ (a2 : Int32) (a3 : Int32) (a4 : Int32) (h : zHp), s_X8_mayTake_L63 k31 a2 a3 a4 h = some q → J 63 [(0, .ref 35), (2, .int a2), (3, .int a3), (4, .int a4)] [] 117 zRF h := by
  intro a2 a3 a4 h e
  unfold s_X8_mayTake_L63 at e
  refine zv_iinc (k := 3) (v := a4 + (1 : Int32)) (lv' := [(4, .int (a4 + (1 : Int32))), (0, .ref 35), (2, .int a2), (3, .int a3)]) X dX8_mayTake_63 rfl rfl (Nat.le_of_ble_eq_true rfl) rfl ?_
  refine zv_goto (tgt := 31) X dX8_mayTake_66 (by decide) ?_
  exact zv_pick X [1, 2, 3, 0] rfl (hk31 _ _ _ _ e)
set_option maxRecDepth 100000 in
set_option maxHeartbeats 4000000 in
theorem k_X8_mayTake_L31 {l : Launch} {D : va_G} {cy : Nat → ClassId} {S0 d : Nat} {J : zJ} (q : (Int32 × zHp)) (hd : 1 ≤ d) (X : zOK l D cy S0 d RX8 cX8_mayTake 5 (yX8_mayTake.name == "<init>") 117 117 (some .boolean) (zRT 117 zRF (some (.int q.1)) q.2) J) : ∀ (f : Nat) (a2 : Int32) (a3 : Int32) (a4 : Int32) (h : zHp), s_X8_mayTake_L31 f a2 a3 a4 h = some q → J 31 [(0, .ref 35), (2, .int a2), (3, .int a3), (4, .int a4)] [] 117 zRF h := by
  intro f
  induction f with
  | zero => intro _ _ _ h e; exact absurd e (fun z => by cases z)
  | succ f ih =>
    intro a2 a3 a4 h e
    rw [s_X8_mayTake_L31] at e
    refine zv_iload X dX8_mayTake_31 rfl ?_
    refine zv_iconst (v := (3 : Int32)) X dX8_mayTake_33 zic_3 ?_
    refine zv_icmp_ge (tgt := 69) X dX8_mayTake_34 (by decide) (fun c1 => ?_) (fun c1 => ?_)
    · replace e := zit e c1
      refine zv_iconst (v := (1 : Int32)) X dX8_mayTake_69 zic_1 ?_
      exact zv_retZ X e rfl zbo_1 dX8_mayTake_70
    · replace e := zif e c1
      refine zv_iload_n X dX8_mayTake_37 rfl rfl ?_
      refine zv_iload X dX8_mayTake_38 rfl ?_
      refine zv_ishr X dX8_mayTake_40 ?_
      refine zv_iconst (v := (1 : Int32)) X dX8_mayTake_41 zic_1 ?_
      refine zv_iand X dX8_mayTake_42 ?_
      refine zv_if_eq (tgt := 63) X dX8_mayTake_43 (by decide) (fun c2 => ?_) (fun c2 => ?_)
      · replace e := zit e c2
        exact k_X8_mayTake_L63 q hd X ih _ _ _ _ e
      · replace e := zif e c2
        refine zv_aload_n X dX8_mayTake_46 rfl rfl ?_
        refine zv_getR X zf_RX8_30 znt_a zk_35 zb_35 zr_35_6 dX8_mayTake_47 ?_
        refine zv_iload_n X dX8_mayTake_50 rfl rfl ?_
        refine zv_iconst (v := (3 : Int32)) X dX8_mayTake_51 zic_3 ?_
        refine zv_imul X dX8_mayTake_52 ?_
        refine zv_iload X dX8_mayTake_53 rfl ?_
        refine zv_iadd X dX8_mayTake_55 ?_
        refine zb e (fun v3 gv3 e => ?_)
        refine zv_iald X zk_42 zl_42 zb_42 dX8_mayTake_56 gv3 ?_
        refine zv_iconst (v := (1 : Int32)) X dX8_mayTake_57 zic_1 ?_
        refine zv_icmp_ge (tgt := 63) X dX8_mayTake_58 (by decide) (fun c4 => ?_) (fun c4 => ?_)
        · replace e := zit e c4
          exact k_X8_mayTake_L63 q hd X ih _ _ _ _ e
        · replace e := zif e c4
          refine zv_iconst (v := (0 : Int32)) X dX8_mayTake_61 zic_0 ?_
          exact zv_retZ X e rfl zbo_0 dX8_mayTake_62
set_option maxRecDepth 100000 in
set_option maxHeartbeats 4000000 in
theorem k_X8_mayTake {l : Launch} {D : va_G} {cy : Nat → ClassId} {S0 d : Nat} (hd : 1 ≤ d) {a1 : Int32} {a2 : Int32} {a3 : Int32} {h : zHp} {q : (Int32 × zHp)} (e : s_X8_mayTake a1 a2 a3 h = some q) : zCT l D cy S0 d yX8_mayTake cX8_mayTake 5 (some .boolean) [.ref 35, .int a1, .int a2, .int a3] 117 zRF h (some (.int q.1)) 117 zRF q.2 := by
  unfold s_X8_mayTake at e
  refine zCT_of RX8 rfl zm_X8_mayTake (Nat.le_refl _) (Nat.le_of_ble_eq_true rfl) (fun J X => ?_)
  show J 0 [(0, .ref 35), (1, .int a1), (2, .int a2), (3, .int a3)] [] 117 zRF h
  refine zv_iload_n X dX8_mayTake_0 rfl rfl ?_
  refine zv_aload_n X dX8_mayTake_1 rfl rfl ?_
  refine zv_getR X zf_RX8_18 znt_a zk_35 zb_35 zr_35_2 dX8_mayTake_2 ?_
  refine zv_iload_n X dX8_mayTake_5 rfl rfl ?_
  refine zb e (fun v1 gv1 e => ?_)
  refine zv_iald X zk_38 zl_38 zb_38 dX8_mayTake_6 gv1 ?_
  refine zv_iconst (v := (-1 : Int32)) X dX8_mayTake_7 zic_m1 ?_
  refine zv_ixor X dX8_mayTake_8 ?_
  refine zv_iand X dX8_mayTake_9 ?_
  refine zv_if_ne (tgt := 26) X dX8_mayTake_10 (by decide) (fun c2 => ?_) (fun c2 => ?_)
  · replace e := zif e c2
    exact zv_pick X [] rfl (k_X8_mayTake_L26 q hd X  _ e)
  · replace e := zit e c2
    refine zv_iload_n X dX8_mayTake_13 rfl rfl ?_
    refine zb e (fun q3 gq3 e => ?_)
    refine zv_callS (stk := [.int a3]) (as := [.int a3]) (st := []) X zl_RX8_89 zm_J6_bitCount_0f7a4 (k_J6_bitCount_0f7a4 (d := d - 1) (by omega) gq3) (by omega) rfl (Nat.le_of_ble_eq_true rfl) (Nat.le_refl _) rfl dX8_mayTake_14 ?_
    show J 17 [(0, .ref 35), (1, .int a1), (2, .int a2), (3, .int a3)] [.int q3.1] 117 zRF q3.2
    refine zv_aload_n X dX8_mayTake_17 rfl rfl ?_
    refine zv_getR X zf_RX8_15 znt_a zk_35 zb_35 zr_35_1 dX8_mayTake_18 ?_
    refine zv_iload_n X dX8_mayTake_21 rfl rfl ?_
    refine zb e (fun v4 gv4 e => ?_)
    refine zv_iald X zk_37 zl_37 zb_37 dX8_mayTake_22 gv4 ?_
    refine zv_icmp_eq (tgt := 28) X dX8_mayTake_23 (by decide) (fun c5 => ?_) (fun c5 => ?_)
    · replace e := zit e c5
      refine zv_iconst (v := (0 : Int32)) X dX8_mayTake_28 zic_0 ?_
      refine zv_istore (i := 4) (lv' := [(4, .int (0 : Int32)), (0, .ref 35), (1, .int a1), (2, .int a2), (3, .int a3)]) X dX8_mayTake_29 (Nat.le_of_ble_eq_true rfl) rfl ?_
      exact zv_pick X [1, 3, 4, 0] rfl (k_X8_mayTake_L31 q hd X _ _ _ _ _ e)
    · replace e := zif e c5
      exact zv_pick X [] rfl (k_X8_mayTake_L26 q hd X  _ e)
-- X8_changeRoom
def s_X8_changeRoom_L33 (k3 : Int32 → Int32 → Int32 → Int32 → zHp → Option zHp) (a1 : Int32) (a2 : Int32) (a3 : Int32) (a4 : Int32) (h : zHp) : Option zHp :=
  k3 a1 a2 a3 (a4 + (1 : Int32)) h
def s_X8_changeRoom_L3 : Nat → Int32 → Int32 → Int32 → Int32 → zHp → Option zHp
  | 0, _, _, _, _, _ => none
  | f + 1, a1, a2, a3, a4, h =>
  if (3 : Int32) ≤ a4 then
    some h
  else
    if ((a2 >>> (a4 &&& 31)) &&& (1 : Int32)) = 0 then
      s_X8_changeRoom_L33 (s_X8_changeRoom_L3 f) a1 a2 a3 a4 h
    else
      (some ((a1 * (3 : Int32)) + a4)).bind fun v3 =>
      (zri h 42 15 v3).bind fun v4 =>
      (zui h 42 15 v3 (v4 + a3)).bind fun h5 =>
      s_X8_changeRoom_L33 (s_X8_changeRoom_L3 f) a1 a2 a3 a4 h5
def s_X8_changeRoom (a1 : Int32) (a2 : Int32) (a3 : Int32) (h : zHp) : Option zHp :=
  s_X8_changeRoom_L3 zFU a1 a2 a3 (0 : Int32) h
set_option maxRecDepth 100000 in
set_option maxHeartbeats 4000000 in
theorem k_X8_changeRoom_L33 {l : Launch} {D : va_G} {cy : Nat → ClassId} {S0 d : Nat} {J : zJ} (q : zHp) (hd : 0 ≤ d) (X : zOK l D cy S0 d RX8 cX8_changeRoom 5 (yX8_changeRoom.name == "<init>") 117 117 none (zRT 117 zRF none q) J) {k3 : Int32 → Int32 → Int32 → Int32 → zHp → Option zHp} (hk3 : ∀ (a1 : Int32) (a2 : Int32) (a3 : Int32) (a4 : Int32) (h : zHp), k3 a1 a2 a3 a4 h = some q → J 3 [(0, .ref 35), (1, .int a1), (2, .int a2), (3, .int a3), (4, .int a4)] [] 117 zRF h) : ∀ (a1 : Int32) (a2 : Int32) (a3 : Int32) (a4 : Int32) (h : zHp), s_X8_changeRoom_L33 k3 a1 a2 a3 a4 h = some q → J 33 [(0, .ref 35), (1, .int a1), (2, .int a2), (3, .int a3), (4, .int a4)] [] 117 zRF h := by
  intro a1 a2 a3 a4 h e
  unfold s_X8_changeRoom_L33 at e
  refine zv_iinc (k := 4) (v := a4 + (1 : Int32)) (lv' := [(4, .int (a4 + (1 : Int32))), (0, .ref 35), (1, .int a1), (2, .int a2), (3, .int a3)]) X dX8_changeRoom_33 rfl rfl (Nat.le_of_ble_eq_true rfl) rfl ?_
  refine zv_goto (tgt := 3) X dX8_changeRoom_36 (by decide) ?_
  exact zv_pick X [1, 2, 3, 4, 0] rfl (hk3 _ _ _ _ _ e)
set_option maxRecDepth 100000 in
set_option maxHeartbeats 4000000 in
theorem k_X8_changeRoom_L3 {l : Launch} {D : va_G} {cy : Nat → ClassId} {S0 d : Nat} {J : zJ} (q : zHp) (hd : 0 ≤ d) (X : zOK l D cy S0 d RX8 cX8_changeRoom 5 (yX8_changeRoom.name == "<init>") 117 117 none (zRT 117 zRF none q) J) : ∀ (f : Nat) (a1 : Int32) (a2 : Int32) (a3 : Int32) (a4 : Int32) (h : zHp), s_X8_changeRoom_L3 f a1 a2 a3 a4 h = some q → J 3 [(0, .ref 35), (1, .int a1), (2, .int a2), (3, .int a3), (4, .int a4)] [] 117 zRF h := by
  intro f
  induction f with
  | zero => intro _ _ _ _ h e; exact absurd e (fun z => by cases z)
  | succ f ih =>
    intro a1 a2 a3 a4 h e
    rw [s_X8_changeRoom_L3] at e
    refine zv_iload X dX8_changeRoom_3 rfl ?_
    refine zv_iconst (v := (3 : Int32)) X dX8_changeRoom_5 zic_3 ?_
    refine zv_icmp_ge (tgt := 39) X dX8_changeRoom_6 (by decide) (fun c1 => ?_) (fun c1 => ?_)
    · replace e := zit e c1
      exact zv_retV X e rfl dX8_changeRoom_39
    · replace e := zif e c1
      refine zv_iload_n X dX8_changeRoom_9 rfl rfl ?_
      refine zv_iload X dX8_changeRoom_10 rfl ?_
      refine zv_ishr X dX8_changeRoom_12 ?_
      refine zv_iconst (v := (1 : Int32)) X dX8_changeRoom_13 zic_1 ?_
      refine zv_iand X dX8_changeRoom_14 ?_
      refine zv_if_eq (tgt := 33) X dX8_changeRoom_15 (by decide) (fun c2 => ?_) (fun c2 => ?_)
      · replace e := zit e c2
        exact k_X8_changeRoom_L33 q hd X ih _ _ _ _ _ e
      · replace e := zif e c2
        refine zv_aload_n X dX8_changeRoom_18 rfl rfl ?_
        refine zv_getR X zf_RX8_30 znt_a zk_35 zb_35 zr_35_6 dX8_changeRoom_19 ?_
        refine zv_iload_n X dX8_changeRoom_22 rfl rfl ?_
        refine zv_iconst (v := (3 : Int32)) X dX8_changeRoom_23 zic_3 ?_
        refine zv_imul X dX8_changeRoom_24 ?_
        refine zv_iload X dX8_changeRoom_25 rfl ?_
        refine zv_iadd X dX8_changeRoom_27 ?_
        refine zb e (fun v3 gv3 e => ?_)
        refine zv_nmI X gv3 ?_
        refine zv_dup2 X dX8_changeRoom_28 ?_
        refine zb e (fun v4 gv4 e => ?_)
        refine zv_iald X zk_42 zl_42 zb_42 dX8_changeRoom_29 gv4 ?_
        refine zv_iload_n X dX8_changeRoom_30 rfl rfl ?_
        refine zv_iadd X dX8_changeRoom_31 ?_
        refine zb e (fun h5 gh5 e => ?_)
        refine zv_iast X zk_42 zl_42 zb_42 dX8_changeRoom_32 gh5 ?_
        exact k_X8_changeRoom_L33 q hd X ih _ _ _ _ _ e
set_option maxRecDepth 100000 in
set_option maxHeartbeats 4000000 in
theorem k_X8_changeRoom {l : Launch} {D : va_G} {cy : Nat → ClassId} {S0 d : Nat} (hd : 0 ≤ d) {a1 : Int32} {a2 : Int32} {a3 : Int32} {h : zHp} {q : zHp} (e : s_X8_changeRoom a1 a2 a3 h = some q) : zCT l D cy S0 d yX8_changeRoom cX8_changeRoom 5 none [.ref 35, .int a1, .int a2, .int a3] 117 zRF h none 117 zRF q := by
  unfold s_X8_changeRoom at e
  refine zCT_of RX8 rfl zm_X8_changeRoom (Nat.le_refl _) (Nat.le_of_ble_eq_true rfl) (fun J X => ?_)
  show J 0 [(0, .ref 35), (1, .int a1), (2, .int a2), (3, .int a3)] [] 117 zRF h
  refine zv_iconst (v := (0 : Int32)) X dX8_changeRoom_0 zic_0 ?_
  refine zv_istore (i := 4) (lv' := [(4, .int (0 : Int32)), (0, .ref 35), (1, .int a1), (2, .int a2), (3, .int a3)]) X dX8_changeRoom_1 (Nat.le_of_ble_eq_true rfl) rfl ?_
  exact zv_pick X [1, 2, 3, 4, 0] rfl (k_X8_changeRoom_L3 q hd X _ _ _ _ _ _ e)
-- X8_choose
def s_X8_choose (a1 : Int32) (a2 : Int32) (a3 : Int32) (h : zHp) : Option (Int32 × zHp) :=
  (zui h 40 6 a1 a2).bind fun h1 =>
  (zui h1 41 6 a1 a3).bind fun h2 =>
  (s_X8_priceOf a1 a2 h2).bind fun q3 =>
  some (q3.1, q3.2)
set_option maxRecDepth 100000 in
set_option maxHeartbeats 4000000 in
theorem k_X8_choose {l : Launch} {D : va_G} {cy : Nat → ClassId} {S0 d : Nat} (hd : 1 ≤ d) {a1 : Int32} {a2 : Int32} {a3 : Int32} {h : zHp} {q : (Int32 × zHp)} (e : s_X8_choose a1 a2 a3 h = some q) : zCT l D cy S0 d yX8_choose cX8_choose 4 (some .int) [.ref 35, .int a1, .int a2, .int a3] 117 zRF h (some (.int q.1)) 117 zRF q.2 := by
  unfold s_X8_choose at e
  refine zCT_of RX8 rfl zm_X8_choose (Nat.le_refl _) (Nat.le_of_ble_eq_true rfl) (fun J X => ?_)
  show J 0 [(0, .ref 35), (1, .int a1), (2, .int a2), (3, .int a3)] [] 117 zRF h
  refine zv_aload_n X dX8_choose_0 rfl rfl ?_
  refine zv_getR X zf_RX8_24 znt_a zk_35 zb_35 zr_35_4 dX8_choose_1 ?_
  refine zv_iload_n X dX8_choose_4 rfl rfl ?_
  refine zv_iload_n X dX8_choose_5 rfl rfl ?_
  refine zb e (fun h1 gh1 e => ?_)
  refine zv_iast X zk_40 zl_40 zb_40 dX8_choose_6 gh1 ?_
  refine zv_aload_n X dX8_choose_7 rfl rfl ?_
  refine zv_getR X zf_RX8_27 znt_a zk_35 zb_35 zr_35_5 dX8_choose_8 ?_
  refine zv_iload_n X dX8_choose_11 rfl rfl ?_
  refine zv_iload_n X dX8_choose_12 rfl rfl ?_
  refine zb e (fun h2 gh2 e => ?_)
  refine zv_iast X zk_41 zl_41 zb_41 dX8_choose_13 gh2 ?_
  refine zv_aload_n X dX8_choose_14 rfl rfl ?_
  refine zv_iload_n X dX8_choose_15 rfl rfl ?_
  refine zv_iload_n X dX8_choose_16 rfl rfl ?_
  refine zb e (fun q3 gq3 e => ?_)
  refine zv_callV (stk := [.int a2, .int a1, .ref 35]) (as := [.int a1, .int a2]) (st := []) (k := 35) X zl_RX8_74 zm_X8_priceOf (k_X8_priceOf (d := d - 1) (by omega) gq3) (by omega) zb_35 (by rw [zk_35]; rfl) rfl rfl (Nat.le_of_ble_eq_true rfl) (Nat.le_refl _) rfl dX8_choose_17 ?_
  show J 20 [(0, .ref 35), (1, .int a1), (2, .int a2), (3, .int a3)] [.int q3.1] 117 zRF q3.2
  exact zv_retI X e rfl dX8_choose_20
-- X8_settle
def s_X8_settle_L86 (k2 : Int32 → Int32 → Int32 → zHp → Option (Int32 × zHp)) (k18 : Int32 → Int32 → Int32 → Int32 → Int32 → zHp → Option (Int32 × zHp)) (a1 : Int32) (a2 : Int32) (a3 : Int32) (a4 : Int32) (a5 : Int32) (h : zHp) : Option (Int32 × zHp) :=
  k18 a1 a2 a3 a4 (a5 + (1 : Int32)) h
def s_X8_settle_L92 (k2 : Int32 → Int32 → Int32 → zHp → Option (Int32 × zHp)) (a1 : Int32) (a2 : Int32) (a3 : Int32) (h : zHp) : Option (Int32 × zHp) :=
  k2 a1 a2 (a3 + (1 : Int32)) h
def s_X8_settle_L18 (k2 : Int32 → Int32 → Int32 → zHp → Option (Int32 × zHp)) : Nat → Int32 → Int32 → Int32 → Int32 → Int32 → zHp → Option (Int32 × zHp)
  | 0, _, _, _, _, _, _ => none
  | f + 1, a1, a2, a3, a4, a5, h =>
  if (h.1 35 11) ≤ a5 then
    s_X8_settle_L92 k2 a1 a2 a3 h
  else
    if a2 < a4 then
      s_X8_settle_L92 k2 a1 a2 a3 h
    else
      (s_X8_mayTake a1 a3 a5 h).bind fun q3 =>
      if q3.1 = 0 then
        s_X8_settle_L86 k2 (s_X8_settle_L18 k2 f) a1 a2 a3 a4 a5 q3.2
      else
        (s_X8_changeRoom a3 a5 (-1 : Int32) q3.2).bind fun q5 =>
        (s_X8_leastFrom (a1 + (1 : Int32)) q5).bind fun q6 =>
        if (a4 + q6.1) = a2 then
          (s_X8_choose a1 a3 a5 q6.2).bind fun q9 =>
          some (q9.1, q9.2)
        else
          (s_X8_changeRoom a3 a5 (1 : Int32) q6.2).bind fun q8 =>
          s_X8_settle_L86 k2 (s_X8_settle_L18 k2 f) a1 a2 a3 a4 a5 q8
def s_X8_settle_L2 : Nat → Int32 → Int32 → Int32 → zHp → Option (Int32 × zHp)
  | 0, _, _, _, _ => none
  | f + 1, a1, a2, a3, h =>
  if (5 : Int32) ≤ a3 then
    (s_X8_choose a1 (5 : Int32) (0 : Int32) h).bind fun q2 =>
    some (q2.1, q2.2)
  else
    (s_X8_priceOf a1 a3 h).bind fun q3 =>
    s_X8_settle_L18 (s_X8_settle_L2 f) zFU a1 a2 a3 q3.1 (1 : Int32) q3.2
def s_X8_settle (a1 : Int32) (a2 : Int32) (h : zHp) : Option (Int32 × zHp) :=
  s_X8_settle_L2 zFU a1 a2 (0 : Int32) h
set_option maxRecDepth 100000 in
set_option maxHeartbeats 4000000 in
theorem k_X8_settle_L86 {l : Launch} {D : va_G} {cy : Nat → ClassId} {S0 d : Nat} {J : zJ} (q : (Int32 × zHp)) (hd : 3 ≤ d) (X : zOK l D cy S0 d RX8 cX8_settle 6 (yX8_settle.name == "<init>") 117 117 (some .int) (zRT 117 zRF (some (.int q.1)) q.2) J) {k2 : Int32 → Int32 → Int32 → zHp → Option (Int32 × zHp)} (hk2 : ∀ (a1 : Int32) (a2 : Int32) (a3 : Int32) (h : zHp), k2 a1 a2 a3 h = some q → J 2 [(0, .ref 35), (1, .int a1), (2, .int a2), (3, .int a3)] [] 117 zRF h) {k18 : Int32 → Int32 → Int32 → Int32 → Int32 → zHp → Option (Int32 × zHp)} (hk18 : ∀ (a1 : Int32) (a2 : Int32) (a3 : Int32) (a4 : Int32) (a5 : Int32) (h : zHp), k18 a1 a2 a3 a4 a5 h = some q → J 18 [(0, .ref 35), (1, .int a1), (2, .int a2), (3, .int a3), (4, .int a4), (5, .int a5)] [] 117 zRF h) : ∀ (a1 : Int32) (a2 : Int32) (a3 : Int32) (a4 : Int32) (a5 : Int32) (h : zHp), s_X8_settle_L86 k2 k18 a1 a2 a3 a4 a5 h = some q → J 86 [(0, .ref 35), (1, .int a1), (2, .int a2), (3, .int a3), (4, .int a4), (5, .int a5)] [] 117 zRF h := by
  intro a1 a2 a3 a4 a5 h e
  unfold s_X8_settle_L86 at e
  refine zv_iinc (k := 5) (v := a5 + (1 : Int32)) (lv' := [(5, .int (a5 + (1 : Int32))), (0, .ref 35), (1, .int a1), (2, .int a2), (3, .int a3), (4, .int a4)]) X dX8_settle_86 rfl rfl (Nat.le_of_ble_eq_true rfl) rfl ?_
  refine zv_goto (tgt := 18) X dX8_settle_89 (by decide) ?_
  exact zv_pick X [1, 2, 3, 4, 5, 0] rfl (hk18 _ _ _ _ _ _ e)
set_option maxRecDepth 100000 in
set_option maxHeartbeats 4000000 in
theorem k_X8_settle_L92 {l : Launch} {D : va_G} {cy : Nat → ClassId} {S0 d : Nat} {J : zJ} (q : (Int32 × zHp)) (hd : 3 ≤ d) (X : zOK l D cy S0 d RX8 cX8_settle 6 (yX8_settle.name == "<init>") 117 117 (some .int) (zRT 117 zRF (some (.int q.1)) q.2) J) {k2 : Int32 → Int32 → Int32 → zHp → Option (Int32 × zHp)} (hk2 : ∀ (a1 : Int32) (a2 : Int32) (a3 : Int32) (h : zHp), k2 a1 a2 a3 h = some q → J 2 [(0, .ref 35), (1, .int a1), (2, .int a2), (3, .int a3)] [] 117 zRF h) : ∀ (a1 : Int32) (a2 : Int32) (a3 : Int32) (h : zHp), s_X8_settle_L92 k2 a1 a2 a3 h = some q → J 92 [(0, .ref 35), (1, .int a1), (2, .int a2), (3, .int a3)] [] 117 zRF h := by
  intro a1 a2 a3 h e
  unfold s_X8_settle_L92 at e
  refine zv_iinc (k := 3) (v := a3 + (1 : Int32)) (lv' := [(3, .int (a3 + (1 : Int32))), (0, .ref 35), (1, .int a1), (2, .int a2)]) X dX8_settle_92 rfl rfl (Nat.le_of_ble_eq_true rfl) rfl ?_
  refine zv_goto (tgt := 2) X dX8_settle_95 (by decide) ?_
  exact zv_pick X [1, 2, 3, 0] rfl (hk2 _ _ _ _ e)
set_option maxRecDepth 100000 in
set_option maxHeartbeats 4000000 in
theorem k_X8_settle_L18 {l : Launch} {D : va_G} {cy : Nat → ClassId} {S0 d : Nat} {J : zJ} (q : (Int32 × zHp)) (hd : 3 ≤ d) (X : zOK l D cy S0 d RX8 cX8_settle 6 (yX8_settle.name == "<init>") 117 117 (some .int) (zRT 117 zRF (some (.int q.1)) q.2) J) {k2 : Int32 → Int32 → Int32 → zHp → Option (Int32 × zHp)} (hk2 : ∀ (a1 : Int32) (a2 : Int32) (a3 : Int32) (h : zHp), k2 a1 a2 a3 h = some q → J 2 [(0, .ref 35), (1, .int a1), (2, .int a2), (3, .int a3)] [] 117 zRF h) : ∀ (f : Nat) (a1 : Int32) (a2 : Int32) (a3 : Int32) (a4 : Int32) (a5 : Int32) (h : zHp), s_X8_settle_L18 k2 f a1 a2 a3 a4 a5 h = some q → J 18 [(0, .ref 35), (1, .int a1), (2, .int a2), (3, .int a3), (4, .int a4), (5, .int a5)] [] 117 zRF h := by
  intro f
  induction f with
  | zero => intro _ _ _ _ _ h e; exact absurd e (fun z => by cases z)
  | succ f ih =>
    intro a1 a2 a3 a4 a5 h e
    rw [s_X8_settle_L18] at e
    refine zv_iload X dX8_settle_18 rfl ?_
    refine zv_aload_n X dX8_settle_20 rfl rfl ?_
    refine zv_getI X zf_RX8_46 zk_35 zb_35 dX8_settle_21 ?_
    refine zv_icmp_ge (tgt := 92) X dX8_settle_24 (by decide) (fun c1 => ?_) (fun c1 => ?_)
    · replace e := zit e c1
      exact zv_pick X [0, 1, 2, 3] rfl (k_X8_settle_L92 q hd X hk2 _ _ _ _ e)
    · replace e := zif e c1
      refine zv_iload X dX8_settle_27 rfl ?_
      refine zv_iload_n X dX8_settle_29 rfl rfl ?_
      refine zv_icmp_gt (tgt := 92) X dX8_settle_30 (by decide) (fun c2 => ?_) (fun c2 => ?_)
      · replace e := zit e c2
        exact zv_pick X [0, 1, 2, 3] rfl (k_X8_settle_L92 q hd X hk2 _ _ _ _ e)
      · replace e := zif e c2
        refine zv_aload_n X dX8_settle_33 rfl rfl ?_
        refine zv_iload_n X dX8_settle_34 rfl rfl ?_
        refine zv_iload_n X dX8_settle_35 rfl rfl ?_
        refine zv_iload X dX8_settle_36 rfl ?_
        refine zb e (fun q3 gq3 e => ?_)
        refine zv_callV (stk := [.int a5, .int a3, .int a1, .ref 35]) (as := [.int a1, .int a3, .int a5]) (st := []) (k := 35) X zl_RX8_77 zm_X8_mayTake (k_X8_mayTake (d := d - 1) (by omega) gq3) (by omega) zb_35 (by rw [zk_35]; rfl) rfl rfl (Nat.le_of_ble_eq_true rfl) (Nat.le_refl _) rfl dX8_settle_38 ?_
        show J 41 [(0, .ref 35), (1, .int a1), (2, .int a2), (3, .int a3), (4, .int a4), (5, .int a5)] [.int q3.1] 117 zRF q3.2
        refine zv_if_ne (tgt := 47) X dX8_settle_41 (by decide) (fun c4 => ?_) (fun c4 => ?_)
        · replace e := zif e c4
          refine zv_aload_n X dX8_settle_47 rfl rfl ?_
          refine zv_iload_n X dX8_settle_48 rfl rfl ?_
          refine zv_iload X dX8_settle_49 rfl ?_
          refine zv_iconst (v := (-1 : Int32)) X dX8_settle_51 zic_m1 ?_
          refine zb e (fun q5 gq5 e => ?_)
          refine zv_callV (stk := [.int (-1 : Int32), .int a5, .int a3, .ref 35]) (as := [.int a3, .int a5, .int (-1 : Int32)]) (st := []) (k := 35) X zl_RX8_81 zm_X8_changeRoom (k_X8_changeRoom (d := d - 1) (by omega) gq5) (by omega) zb_35 (by rw [zk_35]; rfl) rfl rfl (Nat.le_of_ble_eq_true rfl) (Nat.le_refl _) rfl dX8_settle_52 ?_
          show J 55 [(0, .ref 35), (1, .int a1), (2, .int a2), (3, .int a3), (4, .int a4), (5, .int a5)] [] 117 zRF q5
          refine zv_iload X dX8_settle_55 rfl ?_
          refine zv_aload_n X dX8_settle_57 rfl rfl ?_
          refine zv_iload_n X dX8_settle_58 rfl rfl ?_
          refine zv_iconst (v := (1 : Int32)) X dX8_settle_59 zic_1 ?_
          refine zv_iadd X dX8_settle_60 ?_
          refine zb e (fun q6 gq6 e => ?_)
          refine zv_callV (stk := [.int (a1 + (1 : Int32)), .ref 35, .int a4]) (as := [.int (a1 + (1 : Int32))]) (st := [.int a4]) (k := 35) X zl_RX8_67 zm_X8_leastFrom (k_X8_leastFrom (d := d - 1) (by omega) gq6) (by omega) zb_35 (by rw [zk_35]; rfl) rfl rfl (Nat.le_of_ble_eq_true rfl) (Nat.le_refl _) rfl dX8_settle_61 ?_
          show J 64 [(0, .ref 35), (1, .int a1), (2, .int a2), (3, .int a3), (4, .int a4), (5, .int a5)] [.int q6.1, .int a4] 117 zRF q6.2
          refine zv_iadd X dX8_settle_64 ?_
          refine zv_iload_n X dX8_settle_65 rfl rfl ?_
          refine zv_icmp_ne (tgt := 78) X dX8_settle_66 (by decide) (fun c7 => ?_) (fun c7 => ?_)
          · replace e := zif e c7
            refine zv_aload_n X dX8_settle_78 rfl rfl ?_
            refine zv_iload_n X dX8_settle_79 rfl rfl ?_
            refine zv_iload X dX8_settle_80 rfl ?_
            refine zv_iconst (v := (1 : Int32)) X dX8_settle_82 zic_1 ?_
            refine zb e (fun q8 gq8 e => ?_)
            refine zv_callV (stk := [.int (1 : Int32), .int a5, .int a3, .ref 35]) (as := [.int a3, .int a5, .int (1 : Int32)]) (st := []) (k := 35) X zl_RX8_81 zm_X8_changeRoom (k_X8_changeRoom (d := d - 1) (by omega) gq8) (by omega) zb_35 (by rw [zk_35]; rfl) rfl rfl (Nat.le_of_ble_eq_true rfl) (Nat.le_refl _) rfl dX8_settle_83 ?_
            show J 86 [(0, .ref 35), (1, .int a1), (2, .int a2), (3, .int a3), (4, .int a4), (5, .int a5)] [] 117 zRF q8
            exact k_X8_settle_L86 q hd X hk2 ih _ _ _ _ _ _ e
          · replace e := zit e c7
            refine zv_aload_n X dX8_settle_69 rfl rfl ?_
            refine zv_iload_n X dX8_settle_70 rfl rfl ?_
            refine zv_iload_n X dX8_settle_71 rfl rfl ?_
            refine zv_iload X dX8_settle_72 rfl ?_
            refine zb e (fun q9 gq9 e => ?_)
            refine zv_callV (stk := [.int a5, .int a3, .int a1, .ref 35]) (as := [.int a1, .int a3, .int a5]) (st := []) (k := 35) X zl_RX8_85 zm_X8_choose (k_X8_choose (d := d - 1) (by omega) gq9) (by omega) zb_35 (by rw [zk_35]; rfl) rfl rfl (Nat.le_of_ble_eq_true rfl) (Nat.le_refl _) rfl dX8_settle_74 ?_
            show J 77 [(0, .ref 35), (1, .int a1), (2, .int a2), (3, .int a3), (4, .int a4), (5, .int a5)] [.int q9.1] 117 zRF q9.2
            exact zv_retI X e rfl dX8_settle_77
        · replace e := zit e c4
          refine zv_goto (tgt := 86) X dX8_settle_44 (by decide) ?_
          exact k_X8_settle_L86 q hd X hk2 ih _ _ _ _ _ _ e
set_option maxRecDepth 100000 in
set_option maxHeartbeats 4000000 in
theorem k_X8_settle_L2 {l : Launch} {D : va_G} {cy : Nat → ClassId} {S0 d : Nat} {J : zJ} (q : (Int32 × zHp)) (hd : 3 ≤ d) (X : zOK l D cy S0 d RX8 cX8_settle 6 (yX8_settle.name == "<init>") 117 117 (some .int) (zRT 117 zRF (some (.int q.1)) q.2) J) : ∀ (f : Nat) (a1 : Int32) (a2 : Int32) (a3 : Int32) (h : zHp), s_X8_settle_L2 f a1 a2 a3 h = some q → J 2 [(0, .ref 35), (1, .int a1), (2, .int a2), (3, .int a3)] [] 117 zRF h := by
  intro f
  induction f with
  | zero => intro _ _ _ h e; exact absurd e (fun z => by cases z)
  | succ f ih =>
    intro a1 a2 a3 h e
    rw [s_X8_settle_L2] at e
    refine zv_iload_n X dX8_settle_2 rfl rfl ?_
    refine zv_iconst (v := (5 : Int32)) X dX8_settle_3 zic_5 ?_
    refine zv_icmp_ge (tgt := 98) X dX8_settle_4 (by decide) (fun c1 => ?_) (fun c1 => ?_)
    · replace e := zit e c1
      refine zv_aload_n X dX8_settle_98 rfl rfl ?_
      refine zv_iload_n X dX8_settle_99 rfl rfl ?_
      refine zv_iconst (v := (5 : Int32)) X dX8_settle_100 zic_5 ?_
      refine zv_iconst (v := (0 : Int32)) X dX8_settle_101 zic_0 ?_
      refine zb e (fun q2 gq2 e => ?_)
      refine zv_callV (stk := [.int (0 : Int32), .int (5 : Int32), .int a1, .ref 35]) (as := [.int a1, .int (5 : Int32), .int (0 : Int32)]) (st := []) (k := 35) X zl_RX8_85 zm_X8_choose (k_X8_choose (d := d - 1) (by omega) gq2) (by omega) zb_35 (by rw [zk_35]; rfl) rfl rfl (Nat.le_of_ble_eq_true rfl) (Nat.le_refl _) rfl dX8_settle_102 ?_
      show J 105 [(0, .ref 35), (1, .int a1), (2, .int a2), (3, .int a3)] [.int q2.1] 117 zRF q2.2
      exact zv_retI X e rfl dX8_settle_105
    · replace e := zif e c1
      refine zv_aload_n X dX8_settle_7 rfl rfl ?_
      refine zv_iload_n X dX8_settle_8 rfl rfl ?_
      refine zv_iload_n X dX8_settle_9 rfl rfl ?_
      refine zb e (fun q3 gq3 e => ?_)
      refine zv_callV (stk := [.int a3, .int a1, .ref 35]) (as := [.int a1, .int a3]) (st := []) (k := 35) X zl_RX8_74 zm_X8_priceOf (k_X8_priceOf (d := d - 1) (by omega) gq3) (by omega) zb_35 (by rw [zk_35]; rfl) rfl rfl (Nat.le_of_ble_eq_true rfl) (Nat.le_refl _) rfl dX8_settle_10 ?_
      show J 13 [(0, .ref 35), (1, .int a1), (2, .int a2), (3, .int a3)] [.int q3.1] 117 zRF q3.2
      refine zv_istore (i := 4) (lv' := [(4, .int q3.1), (0, .ref 35), (1, .int a1), (2, .int a2), (3, .int a3)]) X dX8_settle_13 (Nat.le_of_ble_eq_true rfl) rfl ?_
      refine zv_iconst (v := (1 : Int32)) X dX8_settle_15 zic_1 ?_
      refine zv_istore (i := 5) (lv' := [(5, .int (1 : Int32)), (4, .int q3.1), (0, .ref 35), (1, .int a1), (2, .int a2), (3, .int a3)]) X dX8_settle_16 (Nat.le_of_ble_eq_true rfl) rfl ?_
      exact zv_pick X [2, 3, 4, 5, 1, 0] rfl (k_X8_settle_L18 q hd X ih _ _ _ _ _ _ _ e)
set_option maxRecDepth 100000 in
set_option maxHeartbeats 4000000 in
theorem k_X8_settle {l : Launch} {D : va_G} {cy : Nat → ClassId} {S0 d : Nat} (hd : 3 ≤ d) {a1 : Int32} {a2 : Int32} {h : zHp} {q : (Int32 × zHp)} (e : s_X8_settle a1 a2 h = some q) : zCT l D cy S0 d yX8_settle cX8_settle 6 (some .int) [.ref 35, .int a1, .int a2] 117 zRF h (some (.int q.1)) 117 zRF q.2 := by
  unfold s_X8_settle at e
  refine zCT_of RX8 rfl zm_X8_settle (Nat.le_refl _) (Nat.le_of_ble_eq_true rfl) (fun J X => ?_)
  show J 0 [(0, .ref 35), (1, .int a1), (2, .int a2)] [] 117 zRF h
  refine zv_iconst (v := (0 : Int32)) X dX8_settle_0 zic_0 ?_
  refine zv_istore_n (i := 3) (lv' := [(3, .int (0 : Int32)), (0, .ref 35), (1, .int a1), (2, .int a2)]) X dX8_settle_1 rfl (Nat.le_of_ble_eq_true rfl) rfl ?_
  exact zv_pick X [1, 2, 3, 0] rfl (k_X8_settle_L2 q hd X _ _ _ _ _ e)
-- X8_settleAll
def s_X8_settleAll_L14 : Nat → Int32 → Int32 → Int32 → zHp → Option (Int32 × zHp)
  | 0, _, _, _, _ => none
  | f + 1, a1, a2, a3, h =>
  if (h.1 35 10) ≤ a3 then
    some (a1, h)
  else
    (s_X8_settle a3 a2 h).bind fun q2 =>
    (some (a2 - q2.1)).bind fun v3 =>
    s_X8_settleAll_L14 f a1 v3 (a3 + (1 : Int32)) q2.2
def s_X8_settleAll  (h : zHp) : Option (Int32 × zHp) :=
  (s_X8_fillBound h).bind fun q1 =>
  (s_X8_leastFrom (0 : Int32) q1).bind fun q2 =>
  s_X8_settleAll_L14 zFU q2.1 q2.1 (0 : Int32) q2.2
set_option maxRecDepth 100000 in
set_option maxHeartbeats 4000000 in
theorem k_X8_settleAll_L14 {l : Launch} {D : va_G} {cy : Nat → ClassId} {S0 d : Nat} {J : zJ} (q : (Int32 × zHp)) (hd : 4 ≤ d) (X : zOK l D cy S0 d RX8 cX8_settleAll 4 (yX8_settleAll.name == "<init>") 117 117 (some .int) (zRT 117 zRF (some (.int q.1)) q.2) J) : ∀ (f : Nat) (a1 : Int32) (a2 : Int32) (a3 : Int32) (h : zHp), s_X8_settleAll_L14 f a1 a2 a3 h = some q → J 14 [(0, .ref 35), (1, .int a1), (2, .int a2), (3, .int a3)] [] 117 zRF h := by
  intro f
  induction f with
  | zero => intro _ _ _ h e; exact absurd e (fun z => by cases z)
  | succ f ih =>
    intro a1 a2 a3 h e
    rw [s_X8_settleAll_L14] at e
    refine zv_iload_n X dX8_settleAll_14 rfl rfl ?_
    refine zv_aload_n X dX8_settleAll_15 rfl rfl ?_
    refine zv_getI X zf_RX8_42 zk_35 zb_35 dX8_settleAll_16 ?_
    refine zv_icmp_ge (tgt := 37) X dX8_settleAll_19 (by decide) (fun c1 => ?_) (fun c1 => ?_)
    · replace e := zit e c1
      refine zv_iload_n X dX8_settleAll_37 rfl rfl ?_
      exact zv_retI X e rfl dX8_settleAll_38
    · replace e := zif e c1
      refine zv_iload_n X dX8_settleAll_22 rfl rfl ?_
      refine zv_aload_n X dX8_settleAll_23 rfl rfl ?_
      refine zv_iload_n X dX8_settleAll_24 rfl rfl ?_
      refine zv_iload_n X dX8_settleAll_25 rfl rfl ?_
      refine zb e (fun q2 gq2 e => ?_)
      refine zv_callV (stk := [.int a2, .int a3, .ref 35, .int a2]) (as := [.int a3, .int a2]) (st := [.int a2]) (k := 35) X zl_RX8_71 zm_X8_settle (k_X8_settle (d := d - 1) (by omega) gq2) (by omega) zb_35 (by rw [zk_35]; rfl) rfl rfl (Nat.le_of_ble_eq_true rfl) (Nat.le_refl _) rfl dX8_settleAll_26 ?_
      show J 29 [(0, .ref 35), (1, .int a1), (2, .int a2), (3, .int a3)] [.int q2.1, .int a2] 117 zRF q2.2
      refine zv_isub X dX8_settleAll_29 ?_
      refine zb e (fun v3 gv3 e => ?_)
      refine zv_nmI X gv3 ?_
      refine zv_istore_n (i := 2) (lv' := [(2, .int v3), (0, .ref 35), (1, .int a1), (3, .int a3)]) X dX8_settleAll_30 rfl (Nat.le_of_ble_eq_true rfl) rfl ?_
      refine zv_iinc (k := 3) (v := a3 + (1 : Int32)) (lv' := [(3, .int (a3 + (1 : Int32))), (2, .int v3), (0, .ref 35), (1, .int a1)]) X dX8_settleAll_31 rfl rfl (Nat.le_of_ble_eq_true rfl) rfl ?_
      refine zv_goto (tgt := 14) X dX8_settleAll_34 (by decide) ?_
      exact zv_pick X [2, 3, 1, 0] rfl (ih _ _ _ _ e)
set_option maxRecDepth 100000 in
set_option maxHeartbeats 4000000 in
theorem k_X8_settleAll {l : Launch} {D : va_G} {cy : Nat → ClassId} {S0 d : Nat} (hd : 4 ≤ d) {h : zHp} {q : (Int32 × zHp)} (e : s_X8_settleAll  h = some q) : zCT l D cy S0 d yX8_settleAll cX8_settleAll 4 (some .int) [.ref 35] 117 zRF h (some (.int q.1)) 117 zRF q.2 := by
  unfold s_X8_settleAll at e
  refine zCT_of RX8 rfl zm_X8_settleAll (Nat.le_refl _) (Nat.le_of_ble_eq_true rfl) (fun J X => ?_)
  show J 0 [(0, .ref 35)] [] 117 zRF h
  refine zv_aload_n X dX8_settleAll_0 rfl rfl ?_
  refine zb e (fun q1 gq1 e => ?_)
  refine zv_callV (stk := [.ref 35]) (as := []) (st := []) (k := 35) X zl_RX8_64 zm_X8_fillBound (k_X8_fillBound (d := d - 1) (by omega) gq1) (by omega) zb_35 (by rw [zk_35]; rfl) rfl rfl (Nat.le_of_ble_eq_true rfl) (Nat.le_refl _) rfl dX8_settleAll_1 ?_
  show J 4 [(0, .ref 35)] [] 117 zRF q1
  refine zv_aload_n X dX8_settleAll_4 rfl rfl ?_
  refine zv_iconst (v := (0 : Int32)) X dX8_settleAll_5 zic_0 ?_
  refine zb e (fun q2 gq2 e => ?_)
  refine zv_callV (stk := [.int (0 : Int32), .ref 35]) (as := [.int (0 : Int32)]) (st := []) (k := 35) X zl_RX8_67 zm_X8_leastFrom (k_X8_leastFrom (d := d - 1) (by omega) gq2) (by omega) zb_35 (by rw [zk_35]; rfl) rfl rfl (Nat.le_of_ble_eq_true rfl) (Nat.le_refl _) rfl dX8_settleAll_6 ?_
  show J 9 [(0, .ref 35)] [.int q2.1] 117 zRF q2.2
  refine zv_istore_n (i := 1) (lv' := [(1, .int q2.1), (0, .ref 35)]) X dX8_settleAll_9 rfl (Nat.le_of_ble_eq_true rfl) rfl ?_
  refine zv_iload_n X dX8_settleAll_10 rfl rfl ?_
  refine zv_istore_n (i := 2) (lv' := [(2, .int q2.1), (1, .int q2.1), (0, .ref 35)]) X dX8_settleAll_11 rfl (Nat.le_of_ble_eq_true rfl) rfl ?_
  refine zv_iconst (v := (0 : Int32)) X dX8_settleAll_12 zic_0 ?_
  refine zv_istore_n (i := 3) (lv' := [(3, .int (0 : Int32)), (2, .int q2.1), (1, .int q2.1), (0, .ref 35)]) X dX8_settleAll_13 rfl (Nat.le_of_ble_eq_true rfl) rfl ?_
  exact zv_pick X [3, 2, 1, 0] rfl (k_X8_settleAll_L14 q hd X _ _ _ _ _ e)
-- X9_planWeek
def s_X9_planWeek_L44 (k19 : Int32 → Int32 → Int32 → zHp → Option (Int32 × zHp)) (a1 : Int32) (a2 : Int32) (a3 : Int32) (h : zHp) : Option (Int32 × zHp) :=
  k19 a1 a2 (a3 + (1 : Int32)) h
def s_X9_planWeek_L19 : Nat → Int32 → Int32 → Int32 → zHp → Option (Int32 × zHp)
  | 0, _, _, _, _ => none
  | f + 1, a1, a2, a3, h =>
  (s_X4_size h).bind fun q1 =>
  if q1.1 ≤ a3 then
    (s_X8_settleAll q1.2).bind fun q3 =>
    some (q3.1, q3.2)
  else
    if ((a2 >>> (a3 &&& 31)) &&& (1 : Int32)) = 0 then
      s_X9_planWeek_L44 (s_X9_planWeek_L19 f) a1 a2 a3 q1.2
    else
      (s_X9_enterWeek a3 a1 q1.2).bind fun q5 =>
      s_X9_planWeek_L44 (s_X9_planWeek_L19 f) a1 a2 a3 q5
def s_X9_planWeek (a1 : Int32) (h : zHp) : Option (Int32 × zHp) :=
  (s_X9_dearestToLeave h).bind fun q1 =>
  (s_X8_open a1 (q1.2.1 0 15) q1.2).bind fun q2 =>
  s_X9_planWeek_L19 zFU a1 q1.1 (0 : Int32) q2
set_option maxRecDepth 100000 in
set_option maxHeartbeats 4000000 in
theorem k_X9_planWeek_L44 {l : Launch} {D : va_G} {cy : Nat → ClassId} {S0 d : Nat} {J : zJ} (q : (Int32 × zHp)) (hd : 5 ≤ d) (X : zOK l D cy S0 d RX9 cX9_planWeek 4 (yX9_planWeek.name == "<init>") 117 117 (some .int) (zRT 117 zRF (some (.int q.1)) q.2) J) {k19 : Int32 → Int32 → Int32 → zHp → Option (Int32 × zHp)} (hk19 : ∀ (a1 : Int32) (a2 : Int32) (a3 : Int32) (h : zHp), k19 a1 a2 a3 h = some q → J 19 [(0, .ref 0), (1, .int a1), (2, .int a2), (3, .int a3)] [] 117 zRF h) : ∀ (a1 : Int32) (a2 : Int32) (a3 : Int32) (h : zHp), s_X9_planWeek_L44 k19 a1 a2 a3 h = some q → J 44 [(0, .ref 0), (1, .int a1), (2, .int a2), (3, .int a3)] [] 117 zRF h := by
  intro a1 a2 a3 h e
  unfold s_X9_planWeek_L44 at e
  refine zv_iinc (k := 3) (v := a3 + (1 : Int32)) (lv' := [(3, .int (a3 + (1 : Int32))), (0, .ref 0), (1, .int a1), (2, .int a2)]) X dX9_planWeek_44 rfl rfl (Nat.le_of_ble_eq_true rfl) rfl ?_
  refine zv_goto (tgt := 19) X dX9_planWeek_47 (by decide) ?_
  exact zv_pick X [1, 2, 3, 0] rfl (hk19 _ _ _ _ e)
set_option maxRecDepth 100000 in
set_option maxHeartbeats 4000000 in
theorem k_X9_planWeek_L19 {l : Launch} {D : va_G} {cy : Nat → ClassId} {S0 d : Nat} {J : zJ} (q : (Int32 × zHp)) (hd : 5 ≤ d) (X : zOK l D cy S0 d RX9 cX9_planWeek 4 (yX9_planWeek.name == "<init>") 117 117 (some .int) (zRT 117 zRF (some (.int q.1)) q.2) J) : ∀ (f : Nat) (a1 : Int32) (a2 : Int32) (a3 : Int32) (h : zHp), s_X9_planWeek_L19 f a1 a2 a3 h = some q → J 19 [(0, .ref 0), (1, .int a1), (2, .int a2), (3, .int a3)] [] 117 zRF h := by
  intro f
  induction f with
  | zero => intro _ _ _ h e; exact absurd e (fun z => by cases z)
  | succ f ih =>
    intro a1 a2 a3 h e
    rw [s_X9_planWeek_L19] at e
    refine zv_iload_n X dX9_planWeek_19 rfl rfl ?_
    refine zv_aload_n X dX9_planWeek_20 rfl rfl ?_
    refine zv_getR X zf_RX9_36 znt_o zk_0 zb_0 zr_0_6 dX9_planWeek_21 ?_
    refine zb e (fun q1 gq1 e => ?_)
    refine zv_callV (stk := [.ref 13, .int a3]) (as := []) (st := [.int a3]) (k := 13) X zl_RX9_199 zm_X4_size (k_X4_size (d := d - 1) (by omega) gq1) (by omega) zb_13 (by rw [zk_13]; rfl) rfl rfl (Nat.le_of_ble_eq_true rfl) (Nat.le_refl _) rfl dX9_planWeek_24 ?_
    show J 27 [(0, .ref 0), (1, .int a1), (2, .int a2), (3, .int a3)] [.int q1.1, .int a3] 117 zRF q1.2
    refine zv_icmp_ge (tgt := 50) X dX9_planWeek_27 (by decide) (fun c2 => ?_) (fun c2 => ?_)
    · replace e := zit e c2
      refine zv_aload_n X dX9_planWeek_50 rfl rfl ?_
      refine zv_getR X zf_RX9_59 znt_o zk_0 zb_0 zr_0_9 dX9_planWeek_51 ?_
      refine zb e (fun q3 gq3 e => ?_)
      refine zv_callV (stk := [.ref 35]) (as := []) (st := []) (k := 35) X zl_RX9_324 zm_X8_settleAll (k_X8_settleAll (d := d - 1) (by omega) gq3) (by omega) zb_35 (by rw [zk_35]; rfl) rfl rfl (Nat.le_of_ble_eq_true rfl) (Nat.le_refl _) rfl dX9_planWeek_54 ?_
      show J 57 [(0, .ref 0), (1, .int a1), (2, .int a2), (3, .int a3)] [.int q3.1] 117 zRF q3.2
      exact zv_retI X e rfl dX9_planWeek_57
    · replace e := zif e c2
      refine zv_iload_n X dX9_planWeek_30 rfl rfl ?_
      refine zv_iload_n X dX9_planWeek_31 rfl rfl ?_
      refine zv_ishr X dX9_planWeek_32 ?_
      refine zv_iconst (v := (1 : Int32)) X dX9_planWeek_33 zic_1 ?_
      refine zv_iand X dX9_planWeek_34 ?_
      refine zv_if_eq (tgt := 44) X dX9_planWeek_35 (by decide) (fun c4 => ?_) (fun c4 => ?_)
      · replace e := zit e c4
        exact k_X9_planWeek_L44 q hd X ih _ _ _ _ e
      · replace e := zif e c4
        refine zv_aload_n X dX9_planWeek_38 rfl rfl ?_
        refine zv_iload_n X dX9_planWeek_39 rfl rfl ?_
        refine zv_iload_n X dX9_planWeek_40 rfl rfl ?_
        refine zb e (fun q5 gq5 e => ?_)
        refine zv_callV (stk := [.int a1, .int a3, .ref 0]) (as := [.int a3, .int a1]) (st := []) (k := 0) X zl_RX9_321 zm_X9_enterWeek (k_X9_enterWeek (d := d - 1) (by omega) gq5) (by omega) zb_0 (by rw [zk_0]; rfl) rfl rfl (Nat.le_of_ble_eq_true rfl) (Nat.le_refl _) rfl dX9_planWeek_41 ?_
        show J 44 [(0, .ref 0), (1, .int a1), (2, .int a2), (3, .int a3)] [] 117 zRF q5
        exact k_X9_planWeek_L44 q hd X ih _ _ _ _ e
set_option maxRecDepth 100000 in
set_option maxHeartbeats 4000000 in
theorem k_X9_planWeek {l : Launch} {D : va_G} {cy : Nat → ClassId} {S0 d : Nat} (hd : 5 ≤ d) {a1 : Int32} {h : zHp} {q : (Int32 × zHp)} (e : s_X9_planWeek a1 h = some q) : zCT l D cy S0 d yX9_planWeek cX9_planWeek 4 (some .int) [.ref 0, .int a1] 117 zRF h (some (.int q.1)) 117 zRF q.2 := by
  unfold s_X9_planWeek at e
  refine zCT_of RX9 rfl zm_X9_planWeek (Nat.le_refl _) (Nat.le_of_ble_eq_true rfl) (fun J X => ?_)
  show J 0 [(0, .ref 0), (1, .int a1)] [] 117 zRF h
  refine zv_aload_n X dX9_planWeek_0 rfl rfl ?_
  refine zb e (fun q1 gq1 e => ?_)
  refine zv_callV (stk := [.ref 0]) (as := []) (st := []) (k := 0) X zl_RX9_315 zm_X9_dearestToLeave (k_X9_dearestToLeave (d := d - 1) (by omega) gq1) (by omega) zb_0 (by rw [zk_0]; rfl) rfl rfl (Nat.le_of_ble_eq_true rfl) (Nat.le_refl _) rfl dX9_planWeek_1 ?_
  show J 4 [(0, .ref 0), (1, .int a1)] [.int q1.1] 117 zRF q1.2
  refine zv_istore_n (i := 2) (lv' := [(2, .int q1.1), (0, .ref 0), (1, .int a1)]) X dX9_planWeek_4 rfl (Nat.le_of_ble_eq_true rfl) rfl ?_
  refine zv_aload_n X dX9_planWeek_5 rfl rfl ?_
  refine zv_getR X zf_RX9_59 znt_o zk_0 zb_0 zr_0_9 dX9_planWeek_6 ?_
  refine zv_iload_n X dX9_planWeek_9 rfl rfl ?_
  refine zv_aload_n X dX9_planWeek_10 rfl rfl ?_
  refine zv_getI X zf_RX9_99 zk_0 zb_0 dX9_planWeek_11 ?_
  refine zb e (fun q2 gq2 e => ?_)
  refine zv_callV (stk := [.int (q1.2.1 0 15), .int a1, .ref 35]) (as := [.int a1, .int (q1.2.1 0 15)]) (st := []) (k := 35) X zl_RX9_318 zm_X8_open (k_X8_open (d := d - 1) (by omega) gq2) (by omega) zb_35 (by rw [zk_35]; rfl) rfl rfl (Nat.le_of_ble_eq_true rfl) (Nat.le_refl _) rfl dX9_planWeek_14 ?_
  show J 17 [(2, .int q1.1), (0, .ref 0), (1, .int a1)] [] 117 zRF q2
  refine zv_iconst (v := (0 : Int32)) X dX9_planWeek_17 zic_0 ?_
  refine zv_istore_n (i := 3) (lv' := [(3, .int (0 : Int32)), (2, .int q1.1), (0, .ref 0), (1, .int a1)]) X dX9_planWeek_18 rfl (Nat.le_of_ble_eq_true rfl) rfl ?_
  exact zv_pick X [2, 3, 1, 0] rfl (k_X9_planWeek_L19 q hd X _ _ _ _ _ e)
-- X9_rounds
def s_X9_rounds_L30  (h : zHp) : Option (Int32 × zHp) :=
  (s_X9_refused (-6 : Int32) h).bind fun q1 =>
  some (q1.1, q1.2)
def s_X9_rounds (a1 : Int32) (h : zHp) : Option (Int32 × zHp) :=
  if (1 : Int32) ≤ a1 then
    if (3 : Int32) < a1 then
      s_X9_rounds_L30 h
    else
      if ((h.1 0 14) + (7 : Int32)) ≤ (1500 : Int32) then
        (s_X9_planWeek a1 h).bind fun q4 =>
        some (q4.1, q4.2)
      else
        s_X9_rounds_L30 h
  else
    (s_X9_refused (-4 : Int32) h).bind fun q5 =>
    some (q5.1, q5.2)
set_option maxRecDepth 100000 in
set_option maxHeartbeats 4000000 in
theorem k_X9_rounds_L30 {l : Launch} {D : va_G} {cy : Nat → ClassId} {S0 d : Nat} {J : zJ} (q : (Int32 × zHp)) (hd : 6 ≤ d) (X : zOK l D cy S0 d RX9 cX9_rounds 2 (yX9_rounds.name == "<init>") 117 117 (some .int) (zRT 117 zRF (some (.int q.1)) q.2) J) : ∀  (h : zHp), s_X9_rounds_L30  h = some q → J 30 [(0, .ref 0)] [] 117 zRF h := by
  intro  h e
  unfold s_X9_rounds_L30 at e
  refine zv_aload_n X dX9_rounds_30 rfl rfl ?_
  refine zv_bipush (v := (-6 : Int32)) X dX9_rounds_31 zbp_m6 ?_
  refine zb e (fun q1 gq1 e => ?_)
  refine zv_callV (stk := [.int (-6 : Int32), .ref 0]) (as := [.int (-6 : Int32)]) (st := []) (k := 0) X zl_RX9_108 zm_X9_refused (k_X9_refused (d := d - 1) (by omega) gq1) (by omega) zb_0 (by rw [zk_0]; rfl) rfl rfl (Nat.le_of_ble_eq_true rfl) (Nat.le_refl _) rfl dX9_rounds_33 ?_
  show J 36 [(0, .ref 0)] [.int q1.1] 117 zRF q1.2
  exact zv_retI X e rfl dX9_rounds_36
set_option maxRecDepth 100000 in
set_option maxHeartbeats 4000000 in
theorem k_X9_rounds {l : Launch} {D : va_G} {cy : Nat → ClassId} {S0 d : Nat} (hd : 6 ≤ d) {a1 : Int32} {h : zHp} {q : (Int32 × zHp)} (e : s_X9_rounds a1 h = some q) : zCT l D cy S0 d yX9_rounds cX9_rounds 2 (some .int) [.ref 0, .int a1] 117 zRF h (some (.int q.1)) 117 zRF q.2 := by
  unfold s_X9_rounds at e
  refine zCT_of RX9 rfl zm_X9_rounds (Nat.le_refl _) (Nat.le_of_ble_eq_true rfl) (fun J X => ?_)
  show J 0 [(0, .ref 0), (1, .int a1)] [] 117 zRF h
  refine zv_iload_n X dX9_rounds_0 rfl rfl ?_
  refine zv_iconst (v := (1 : Int32)) X dX9_rounds_1 zic_1 ?_
  refine zv_icmp_ge (tgt := 12) X dX9_rounds_2 (by decide) (fun c1 => ?_) (fun c1 => ?_)
  · replace e := zit e c1
    refine zv_iload_n X dX9_rounds_12 rfl rfl ?_
    refine zv_iconst (v := (3 : Int32)) X dX9_rounds_13 zic_3 ?_
    refine zv_icmp_gt (tgt := 30) X dX9_rounds_14 (by decide) (fun c2 => ?_) (fun c2 => ?_)
    · replace e := zit e c2
      exact zv_pick X [0] rfl (k_X9_rounds_L30 q hd X  _ e)
    · replace e := zif e c2
      refine zv_aload_n X dX9_rounds_17 rfl rfl ?_
      refine zv_getI X zf_RX9_95 zk_0 zb_0 dX9_rounds_18 ?_
      refine zv_bipush (v := (7 : Int32)) X dX9_rounds_21 zbp_7 ?_
      refine zv_iadd X dX9_rounds_23 ?_
      refine zv_sipush (v := (1500 : Int32)) X dX9_rounds_24 zsp_1500 ?_
      refine zv_icmp_le (tgt := 37) X dX9_rounds_27 (by decide) (fun c3 => ?_) (fun c3 => ?_)
      · replace e := zit e c3
        refine zv_aload_n X dX9_rounds_37 rfl rfl ?_
        refine zv_iload_n X dX9_rounds_38 rfl rfl ?_
        refine zb e (fun q4 gq4 e => ?_)
        refine zv_callV (stk := [.int a1, .ref 0]) (as := [.int a1]) (st := []) (k := 0) X zl_RX9_212 zm_X9_planWeek (k_X9_planWeek (d := d - 1) (by omega) gq4) (by omega) zb_0 (by rw [zk_0]; rfl) rfl rfl (Nat.le_of_ble_eq_true rfl) (Nat.le_refl _) rfl dX9_rounds_39 ?_
        show J 42 [(0, .ref 0), (1, .int a1)] [.int q4.1] 117 zRF q4.2
        exact zv_retI X e rfl dX9_rounds_42
      · replace e := zif e c3
        exact zv_pick X [0] rfl (k_X9_rounds_L30 q hd X  _ e)
  · replace e := zif e c1
    refine zv_aload_n X dX9_rounds_5 rfl rfl ?_
    refine zv_bipush (v := (-4 : Int32)) X dX9_rounds_6 zbp_m4 ?_
    refine zb e (fun q5 gq5 e => ?_)
    refine zv_callV (stk := [.int (-4 : Int32), .ref 0]) (as := [.int (-4 : Int32)]) (st := []) (k := 0) X zl_RX9_108 zm_X9_refused (k_X9_refused (d := d - 1) (by omega) gq5) (by omega) zb_0 (by rw [zk_0]; rfl) rfl rfl (Nat.le_of_ble_eq_true rfl) (Nat.le_refl _) rfl dX9_rounds_8 ?_
    show J 11 [(0, .ref 0), (1, .int a1)] [.int q5.1] 117 zRF q5.2
    exact zv_retI X e rfl dX9_rounds_11
-- X10_wrongRounds
def s_X10_wrongRounds_L34 (b0 : Int32) (h : zHp) : Option (Int32 × zHp) :=
  some (b0, h)
def s_X10_wrongRounds_L28  (h : zHp) : Option (Int32 × zHp) :=
  s_X10_wrongRounds_L34 (-6 : Int32) h
def s_X10_wrongRounds (a1 : Int32) (h : zHp) : Option (Int32 × zHp) :=
  if (1 : Int32) ≤ a1 then
    if (3 : Int32) < a1 then
      s_X10_wrongRounds_L28 h
    else
      if ((h.1 67 0) + (7 : Int32)) ≤ (1500 : Int32) then
        s_X10_wrongRounds_L34 (0 : Int32) h
      else
        s_X10_wrongRounds_L28 h
  else
    s_X10_wrongRounds_L34 (-4 : Int32) h
set_option maxRecDepth 100000 in
set_option maxHeartbeats 4000000 in
theorem k_X10_wrongRounds_L34 {l : Launch} {D : va_G} {cy : Nat → ClassId} {S0 d : Nat} {J : zJ} (q : (Int32 × zHp)) (hd : 0 ≤ d) (X : zOK l D cy S0 d RX10 cX10_wrongRounds 2 (yX10_wrongRounds.name == "<init>") 117 117 (some .int) (zRT 117 zRF (some (.int q.1)) q.2) J) : ∀ (b0 : Int32) (h : zHp), s_X10_wrongRounds_L34 b0 h = some q → J 34 [] [.int b0] 117 zRF h := by
  intro b0 h e
  unfold s_X10_wrongRounds_L34 at e
  exact zv_retI X e rfl dX10_wrongRounds_34
set_option maxRecDepth 100000 in
set_option maxHeartbeats 4000000 in
theorem k_X10_wrongRounds_L28 {l : Launch} {D : va_G} {cy : Nat → ClassId} {S0 d : Nat} {J : zJ} (q : (Int32 × zHp)) (hd : 0 ≤ d) (X : zOK l D cy S0 d RX10 cX10_wrongRounds 2 (yX10_wrongRounds.name == "<init>") 117 117 (some .int) (zRT 117 zRF (some (.int q.1)) q.2) J) : ∀  (h : zHp), s_X10_wrongRounds_L28  h = some q → J 28 [] [] 117 zRF h := by
  intro  h e
  unfold s_X10_wrongRounds_L28 at e
  refine zv_bipush (v := (-6 : Int32)) X dX10_wrongRounds_28 zbp_m6 ?_
  refine zv_goto (tgt := 34) X dX10_wrongRounds_30 (by decide) ?_
  exact k_X10_wrongRounds_L34 q hd X _ _ e
set_option maxRecDepth 100000 in
set_option maxHeartbeats 4000000 in
theorem k_X10_wrongRounds {l : Launch} {D : va_G} {cy : Nat → ClassId} {S0 d : Nat} (hd : 0 ≤ d) {a1 : Int32} {h : zHp} {q : (Int32 × zHp)} (e : s_X10_wrongRounds a1 h = some q) : zCT l D cy S0 d yX10_wrongRounds cX10_wrongRounds 2 (some .int) [.ref 67, .int a1] 117 zRF h (some (.int q.1)) 117 zRF q.2 := by
  unfold s_X10_wrongRounds at e
  refine zCT_of RX10 rfl zm_X10_wrongRounds (Nat.le_refl _) (Nat.le_of_ble_eq_true rfl) (fun J X => ?_)
  show J 0 [(0, .ref 67), (1, .int a1)] [] 117 zRF h
  refine zv_iload_n X dX10_wrongRounds_0 rfl rfl ?_
  refine zv_iconst (v := (1 : Int32)) X dX10_wrongRounds_1 zic_1 ?_
  refine zv_icmp_ge (tgt := 10) X dX10_wrongRounds_2 (by decide) (fun c1 => ?_) (fun c1 => ?_)
  · replace e := zit e c1
    refine zv_iload_n X dX10_wrongRounds_10 rfl rfl ?_
    refine zv_iconst (v := (3 : Int32)) X dX10_wrongRounds_11 zic_3 ?_
    refine zv_icmp_gt (tgt := 28) X dX10_wrongRounds_12 (by decide) (fun c2 => ?_) (fun c2 => ?_)
    · replace e := zit e c2
      exact zv_pick X [] rfl (k_X10_wrongRounds_L28 q hd X  _ e)
    · replace e := zif e c2
      refine zv_aload_n X dX10_wrongRounds_15 rfl rfl ?_
      refine zv_getI X zf_RX10_179 zk_67 zb_67 dX10_wrongRounds_16 ?_
      refine zv_bipush (v := (7 : Int32)) X dX10_wrongRounds_19 zbp_7 ?_
      refine zv_iadd X dX10_wrongRounds_21 ?_
      refine zv_sipush (v := (1500 : Int32)) X dX10_wrongRounds_22 zsp_1500 ?_
      refine zv_icmp_le (tgt := 33) X dX10_wrongRounds_25 (by decide) (fun c3 => ?_) (fun c3 => ?_)
      · replace e := zit e c3
        refine zv_iconst (v := (0 : Int32)) X dX10_wrongRounds_33 zic_0 ?_
        exact zv_pick X [] rfl (k_X10_wrongRounds_L34 q hd X _ _ e)
      · replace e := zif e c3
        exact zv_pick X [] rfl (k_X10_wrongRounds_L28 q hd X  _ e)
  · replace e := zif e c1
    refine zv_bipush (v := (-4 : Int32)) X dX10_wrongRounds_5 zbp_m4 ?_
    refine zv_goto (tgt := 34) X dX10_wrongRounds_7 (by decide) ?_
    exact zv_pick X [] rfl (k_X10_wrongRounds_L34 q hd X _ _ e)

-- X9_dearestBeside
def s_X9_dearestBeside_L50 (k7 : Int32 → Int32 → Int32 → Int32 → zHp → Option (Int32 × zHp)) (a1 : Int32) (a2 : Int32) (a3 : Int32) (a4 : Int32) (h : zHp) : Option (Int32 × zHp) :=
  k7 a1 a2 a3 (a4 + (1 : Int32)) h
def s_X9_dearestBeside_L7 : Nat → Int32 → Int32 → Int32 → Int32 → zHp → Option (Int32 × zHp)
  | 0, _, _, _, _, _ => none
  | f + 1, a1, a2, a3, a4, h =>
  (s_X4_size h).bind fun q1 =>
  if q1.1 ≤ a4 then
    some (a2, q1.2)
  else
    if ((a1 >>> (a4 &&& 31)) &&& (1 : Int32)) = 0 then
      (zri q1.2 4 20 a4).bind fun v4 =>
      if v4 ≤ a3 then
        s_X9_dearestBeside_L50 (s_X9_dearestBeside_L7 f) a1 a2 a3 a4 q1.2
      else
        (zri q1.2 4 20 a4).bind fun v6 =>
        s_X9_dearestBeside_L50 (s_X9_dearestBeside_L7 f) a1 a4 v6 a4 q1.2
    else
      s_X9_dearestBeside_L50 (s_X9_dearestBeside_L7 f) a1 a2 a3 a4 q1.2
def s_X9_dearestBeside (a1 : Int32) (h : zHp) : Option (Int32 × zHp) :=
  s_X9_dearestBeside_L7 zFU a1 (-1 : Int32) (0 : Int32) (0 : Int32) h
set_option maxRecDepth 100000 in
set_option maxHeartbeats 4000000 in
theorem k_X9_dearestBeside_L50 {l : Launch} {D : va_G} {cy : Nat → ClassId} {S0 d : Nat} {J : zJ} (q : (Int32 × zHp)) (hd : 1 ≤ d) (X : zOK l D cy S0 d RX9 cX9_dearestBeside 5 (yX9_dearestBeside.name == "<init>") 117 117 (some .int) (zRT 117 zRF (some (.int q.1)) q.2) J) {k7 : Int32 → Int32 → Int32 → Int32 → zHp → Option (Int32 × zHp)} (hk7 : ∀ (a1 : Int32) (a2 : Int32) (a3 : Int32) (a4 : Int32) (h : zHp), k7 a1 a2 a3 a4 h = some q → J 7 [(0, .ref 0), (1, .int a1), (2, .int a2), (3, .int a3), (4, .int a4)] [] 117 zRF h) : ∀ (a1 : Int32) (a2 : Int32) (a3 : Int32) (a4 : Int32) (h : zHp), s_X9_dearestBeside_L50 k7 a1 a2 a3 a4 h = some q → J 50 [(0, .ref 0), (1, .int a1), (2, .int a2), (3, .int a3), (4, .int a4)] [] 117 zRF h := by
  intro a1 a2 a3 a4 h e
  unfold s_X9_dearestBeside_L50 at e
  refine zv_iinc (k := 4) (v := a4 + (1 : Int32)) (lv' := [(4, .int (a4 + (1 : Int32))), (0, .ref 0), (1, .int a1), (2, .int a2), (3, .int a3)]) X dX9_dearestBeside_50 rfl rfl (Nat.le_of_ble_eq_true rfl) rfl ?_
  refine zv_goto (tgt := 7) X dX9_dearestBeside_53 (by decide) ?_
  exact zv_pick X [1, 2, 3, 4, 0] rfl (hk7 _ _ _ _ _ e)
set_option maxRecDepth 100000 in
set_option maxHeartbeats 4000000 in
theorem k_X9_dearestBeside_L7 {l : Launch} {D : va_G} {cy : Nat → ClassId} {S0 d : Nat} {J : zJ} (q : (Int32 × zHp)) (hd : 1 ≤ d) (X : zOK l D cy S0 d RX9 cX9_dearestBeside 5 (yX9_dearestBeside.name == "<init>") 117 117 (some .int) (zRT 117 zRF (some (.int q.1)) q.2) J) : ∀ (f : Nat) (a1 : Int32) (a2 : Int32) (a3 : Int32) (a4 : Int32) (h : zHp), s_X9_dearestBeside_L7 f a1 a2 a3 a4 h = some q → J 7 [(0, .ref 0), (1, .int a1), (2, .int a2), (3, .int a3), (4, .int a4)] [] 117 zRF h := by
  intro f
  induction f with
  | zero => intro _ _ _ _ h e; exact absurd e (fun z => by cases z)
  | succ f ih =>
    intro a1 a2 a3 a4 h e
    rw [s_X9_dearestBeside_L7] at e
    refine zv_iload X dX9_dearestBeside_7 rfl ?_
    refine zv_aload_n X dX9_dearestBeside_9 rfl rfl ?_
    refine zv_getR X zf_RX9_36 znt_o zk_0 zb_0 zr_0_6 dX9_dearestBeside_10 ?_
    refine zb e (fun q1 gq1 e => ?_)
    refine zv_callV (stk := [.ref 13, .int a4]) (as := []) (st := [.int a4]) (k := 13) X zl_RX9_199 zm_X4_size (k_X4_size (d := d - 1) (by omega) gq1) (by omega) zb_13 (by rw [zk_13]; rfl) rfl rfl (Nat.le_of_ble_eq_true rfl) (Nat.le_refl _) rfl dX9_dearestBeside_13 ?_
    show J 16 [(0, .ref 0), (1, .int a1), (2, .int a2), (3, .int a3), (4, .int a4)] [.int q1.1, .int a4] 117 zRF q1.2
    refine zv_icmp_ge (tgt := 56) X dX9_dearestBeside_16 (by decide) (fun c2 => ?_) (fun c2 => ?_)
    · replace e := zit e c2
      refine zv_iload_n X dX9_dearestBeside_56 rfl rfl ?_
      exact zv_retI X e rfl dX9_dearestBeside_57
    · replace e := zif e c2
      refine zv_iload_n X dX9_dearestBeside_19 rfl rfl ?_
      refine zv_iload X dX9_dearestBeside_20 rfl ?_
      refine zv_ishr X dX9_dearestBeside_22 ?_
      refine zv_iconst (v := (1 : Int32)) X dX9_dearestBeside_23 zic_1 ?_
      refine zv_iand X dX9_dearestBeside_24 ?_
      refine zv_if_ne (tgt := 50) X dX9_dearestBeside_25 (by decide) (fun c3 => ?_) (fun c3 => ?_)
      · replace e := zif e c3
        exact k_X9_dearestBeside_L50 q hd X ih _ _ _ _ _ e
      · replace e := zit e c3
        refine zv_aload_n X dX9_dearestBeside_28 rfl rfl ?_
        refine zv_getR X zf_RX9_20 znt_a zk_0 zb_0 zr_0_3 dX9_dearestBeside_29 ?_
        refine zv_iload X dX9_dearestBeside_32 rfl ?_
        refine zb e (fun v4 gv4 e => ?_)
        refine zv_iald X zk_4 zl_4 zb_4 dX9_dearestBeside_34 gv4 ?_
        refine zv_iload_n X dX9_dearestBeside_35 rfl rfl ?_
        refine zv_icmp_le (tgt := 50) X dX9_dearestBeside_36 (by decide) (fun c5 => ?_) (fun c5 => ?_)
        · replace e := zit e c5
          exact k_X9_dearestBeside_L50 q hd X ih _ _ _ _ _ e
        · replace e := zif e c5
          refine zv_iload X dX9_dearestBeside_39 rfl ?_
          refine zv_istore_n (i := 2) (lv' := [(2, .int a4), (0, .ref 0), (1, .int a1), (3, .int a3), (4, .int a4)]) X dX9_dearestBeside_41 rfl (Nat.le_of_ble_eq_true rfl) rfl ?_
          refine zv_aload_n X dX9_dearestBeside_42 rfl rfl ?_
          refine zv_getR X zf_RX9_20 znt_a zk_0 zb_0 zr_0_3 dX9_dearestBeside_43 ?_
          refine zv_iload X dX9_dearestBeside_46 rfl ?_
          refine zb e (fun v6 gv6 e => ?_)
          refine zv_iald X zk_4 zl_4 zb_4 dX9_dearestBeside_48 gv6 ?_
          refine zv_istore_n (i := 3) (lv' := [(3, .int v6), (2, .int a4), (0, .ref 0), (1, .int a1), (4, .int a4)]) X dX9_dearestBeside_49 rfl (Nat.le_of_ble_eq_true rfl) rfl ?_
          exact zv_pick X [2, 3, 1, 0, 4] rfl (k_X9_dearestBeside_L50 q hd X ih _ _ _ _ _ e)
set_option maxRecDepth 100000 in
set_option maxHeartbeats 4000000 in
theorem k_X9_dearestBeside {l : Launch} {D : va_G} {cy : Nat → ClassId} {S0 d : Nat} (hd : 1 ≤ d) {a1 : Int32} {h : zHp} {q : (Int32 × zHp)} (e : s_X9_dearestBeside a1 h = some q) : zCT l D cy S0 d yX9_dearestBeside cX9_dearestBeside 5 (some .int) [.ref 0, .int a1] 117 zRF h (some (.int q.1)) 117 zRF q.2 := by
  unfold s_X9_dearestBeside at e
  refine zCT_of RX9 rfl zm_X9_dearestBeside (Nat.le_refl _) (Nat.le_of_ble_eq_true rfl) (fun J X => ?_)
  show J 0 [(0, .ref 0), (1, .int a1)] [] 117 zRF h
  refine zv_iconst (v := (-1 : Int32)) X dX9_dearestBeside_0 zic_m1 ?_
  refine zv_istore_n (i := 2) (lv' := [(2, .int (-1 : Int32)), (0, .ref 0), (1, .int a1)]) X dX9_dearestBeside_1 rfl (Nat.le_of_ble_eq_true rfl) rfl ?_
  refine zv_iconst (v := (0 : Int32)) X dX9_dearestBeside_2 zic_0 ?_
  refine zv_istore_n (i := 3) (lv' := [(3, .int (0 : Int32)), (2, .int (-1 : Int32)), (0, .ref 0), (1, .int a1)]) X dX9_dearestBeside_3 rfl (Nat.le_of_ble_eq_true rfl) rfl ?_
  refine zv_iconst (v := (0 : Int32)) X dX9_dearestBeside_4 zic_0 ?_
  refine zv_istore (i := 4) (lv' := [(4, .int (0 : Int32)), (3, .int (0 : Int32)), (2, .int (-1 : Int32)), (0, .ref 0), (1, .int a1)]) X dX9_dearestBeside_5 (Nat.le_of_ble_eq_true rfl) rfl ?_
  exact zv_pick X [3, 4, 2, 1, 0] rfl (k_X9_dearestBeside_L7 q hd X _ _ _ _ _ _ e)
-- X9_dearestToLeave
def s_X9_dearestToLeave_L74 (k52 : Int32 → Int32 → zHp → Option (Int32 × zHp)) (a1 : Int32) (a2 : Int32) (h : zHp) : Option (Int32 × zHp) :=
  k52 a1 (a2 + (1 : Int32)) h
def s_X9_dearestToLeave_L52 : Nat → Int32 → Int32 → zHp → Option (Int32 × zHp)
  | 0, _, _, _ => none
  | f + 1, a1, a2, h =>
  if (6 : Int32) ≤ a2 then
    some (a1, h)
  else
    (s_X9_dearestBeside a1 h).bind fun q2 =>
    if q2.1 < 0 then
      s_X9_dearestToLeave_L74 (s_X9_dearestToLeave_L52 f) a1 a2 q2.2
    else
      (some (a1 ||| ((1 : Int32) <<< (q2.1 &&& 31)))).bind fun v4 =>
      s_X9_dearestToLeave_L74 (s_X9_dearestToLeave_L52 f) v4 a2 q2.2
def s_X9_dearestToLeave_L2 : Nat → Int32 → zHp → Option (Int32 × zHp)
  | 0, _, _ => none
  | f + 1, a1, h =>
  (s_X4_size h).bind fun q1 =>
  if q1.1 ≤ a1 then
    s_X9_dearestToLeave_L52 zFU (0 : Int32) (0 : Int32) q1.2
  else
    (s_X9_riskOf a1 q1.2).bind fun q3 =>
    (s_X9_dueOf a1 q3.1 q3.2).bind fun q4 =>
    (s_X9_delayCost q3.1 q4.1 ((q4.2.1 0 14) + (7 : Int32)) q4.2).bind fun q5 =>
    (zui q5.2 4 20 a1 q5.1).bind fun h6 =>
    s_X9_dearestToLeave_L2 f (a1 + (1 : Int32)) h6
def s_X9_dearestToLeave  (h : zHp) : Option (Int32 × zHp) :=
  s_X9_dearestToLeave_L2 zFU (0 : Int32) h
set_option maxRecDepth 100000 in
set_option maxHeartbeats 4000000 in
theorem k_X9_dearestToLeave_L74 {l : Launch} {D : va_G} {cy : Nat → ClassId} {S0 d : Nat} {J : zJ} (q : (Int32 × zHp)) (hd : 4 ≤ d) (X : zOK l D cy S0 d RX9 cX9_dearestToLeave 4 (yX9_dearestToLeave.name == "<init>") 117 117 (some .int) (zRT 117 zRF (some (.int q.1)) q.2) J) {k52 : Int32 → Int32 → zHp → Option (Int32 × zHp)} (hk52 : ∀ (a1 : Int32) (a2 : Int32) (h : zHp), k52 a1 a2 h = some q → J 52 [(0, .ref 0), (1, .int a1), (2, .int a2)] [] 117 zRF h) : ∀ (a1 : Int32) (a2 : Int32) (h : zHp), s_X9_dearestToLeave_L74 k52 a1 a2 h = some q → J 74 [(0, .ref 0), (1, .int a1), (2, .int a2)] [] 117 zRF h := by
  intro a1 a2 h e
  unfold s_X9_dearestToLeave_L74 at e
  refine zv_iinc (k := 2) (v := a2 + (1 : Int32)) (lv' := [(2, .int (a2 + (1 : Int32))), (0, .ref 0), (1, .int a1)]) X dX9_dearestToLeave_74 rfl rfl (Nat.le_of_ble_eq_true rfl) rfl ?_
  refine zv_goto (tgt := 52) X dX9_dearestToLeave_77 (by decide) ?_
  exact zv_pick X [1, 2, 0] rfl (hk52 _ _ _ e)
set_option maxRecDepth 100000 in
set_option maxHeartbeats 4000000 in
theorem k_X9_dearestToLeave_L52 {l : Launch} {D : va_G} {cy : Nat → ClassId} {S0 d : Nat} {J : zJ} (q : (Int32 × zHp)) (hd : 4 ≤ d) (X : zOK l D cy S0 d RX9 cX9_dearestToLeave 4 (yX9_dearestToLeave.name == "<init>") 117 117 (some .int) (zRT 117 zRF (some (.int q.1)) q.2) J) : ∀ (f : Nat) (a1 : Int32) (a2 : Int32) (h : zHp), s_X9_dearestToLeave_L52 f a1 a2 h = some q → J 52 [(0, .ref 0), (1, .int a1), (2, .int a2)] [] 117 zRF h := by
  intro f
  induction f with
  | zero => intro _ _ h e; exact absurd e (fun z => by cases z)
  | succ f ih =>
    intro a1 a2 h e
    rw [s_X9_dearestToLeave_L52] at e
    refine zv_iload_n X dX9_dearestToLeave_52 rfl rfl ?_
    refine zv_bipush (v := (6 : Int32)) X dX9_dearestToLeave_53 zbp_6 ?_
    refine zv_icmp_ge (tgt := 80) X dX9_dearestToLeave_55 (by decide) (fun c1 => ?_) (fun c1 => ?_)
    · replace e := zit e c1
      refine zv_iload_n X dX9_dearestToLeave_80 rfl rfl ?_
      exact zv_retI X e rfl dX9_dearestToLeave_81
    · replace e := zif e c1
      refine zv_aload_n X dX9_dearestToLeave_58 rfl rfl ?_
      refine zv_iload_n X dX9_dearestToLeave_59 rfl rfl ?_
      refine zb e (fun q2 gq2 e => ?_)
      refine zv_callV (stk := [.int a1, .ref 0]) (as := [.int a1]) (st := []) (k := 0) X zl_RX9_327 zm_X9_dearestBeside (k_X9_dearestBeside (d := d - 1) (by omega) gq2) (by omega) zb_0 (by rw [zk_0]; rfl) rfl rfl (Nat.le_of_ble_eq_true rfl) (Nat.le_refl _) rfl dX9_dearestToLeave_60 ?_
      show J 63 [(0, .ref 0), (1, .int a1), (2, .int a2)] [.int q2.1] 117 zRF q2.2
      refine zv_istore_n (i := 3) (lv' := [(3, .int q2.1), (0, .ref 0), (1, .int a1), (2, .int a2)]) X dX9_dearestToLeave_63 rfl (Nat.le_of_ble_eq_true rfl) rfl ?_
      refine zv_iload_n X dX9_dearestToLeave_64 rfl rfl ?_
      refine zv_if_lt (tgt := 74) X dX9_dearestToLeave_65 (by decide) (fun c3 => ?_) (fun c3 => ?_)
      · replace e := zit e c3
        exact zv_pick X [1, 2, 3] rfl (k_X9_dearestToLeave_L74 q hd X ih _ _ _ e)
      · replace e := zif e c3
        refine zv_iload_n X dX9_dearestToLeave_68 rfl rfl ?_
        refine zv_iconst (v := (1 : Int32)) X dX9_dearestToLeave_69 zic_1 ?_
        refine zv_iload_n X dX9_dearestToLeave_70 rfl rfl ?_
        refine zv_ishl X dX9_dearestToLeave_71 ?_
        refine zv_ior X dX9_dearestToLeave_72 ?_
        refine zb e (fun v4 gv4 e => ?_)
        refine zv_nmI X gv4 ?_
        refine zv_istore_n (i := 1) (lv' := [(1, .int v4), (3, .int q2.1), (0, .ref 0), (2, .int a2)]) X dX9_dearestToLeave_73 rfl (Nat.le_of_ble_eq_true rfl) rfl ?_
        exact zv_pick X [2, 0, 3] rfl (k_X9_dearestToLeave_L74 q hd X ih _ _ _ e)
set_option maxRecDepth 100000 in
set_option maxHeartbeats 4000000 in
theorem k_X9_dearestToLeave_L2 {l : Launch} {D : va_G} {cy : Nat → ClassId} {S0 d : Nat} {J : zJ} (q : (Int32 × zHp)) (hd : 4 ≤ d) (X : zOK l D cy S0 d RX9 cX9_dearestToLeave 4 (yX9_dearestToLeave.name == "<init>") 117 117 (some .int) (zRT 117 zRF (some (.int q.1)) q.2) J) : ∀ (f : Nat) (a1 : Int32) (h : zHp), s_X9_dearestToLeave_L2 f a1 h = some q → J 2 [(0, .ref 0), (1, .int a1)] [] 117 zRF h := by
  intro f
  induction f with
  | zero => intro _ h e; exact absurd e (fun z => by cases z)
  | succ f ih =>
    intro a1 h e
    rw [s_X9_dearestToLeave_L2] at e
    refine zv_iload_n X dX9_dearestToLeave_2 rfl rfl ?_
    refine zv_aload_n X dX9_dearestToLeave_3 rfl rfl ?_
    refine zv_getR X zf_RX9_36 znt_o zk_0 zb_0 zr_0_6 dX9_dearestToLeave_4 ?_
    refine zb e (fun q1 gq1 e => ?_)
    refine zv_callV (stk := [.ref 13, .int a1]) (as := []) (st := [.int a1]) (k := 13) X zl_RX9_199 zm_X4_size (k_X4_size (d := d - 1) (by omega) gq1) (by omega) zb_13 (by rw [zk_13]; rfl) rfl rfl (Nat.le_of_ble_eq_true rfl) (Nat.le_refl _) rfl dX9_dearestToLeave_7 ?_
    show J 10 [(0, .ref 0), (1, .int a1)] [.int q1.1, .int a1] 117 zRF q1.2
    refine zv_icmp_ge (tgt := 48) X dX9_dearestToLeave_10 (by decide) (fun c2 => ?_) (fun c2 => ?_)
    · replace e := zit e c2
      refine zv_iconst (v := (0 : Int32)) X dX9_dearestToLeave_48 zic_0 ?_
      refine zv_istore_n (i := 1) (lv' := [(1, .int (0 : Int32)), (0, .ref 0)]) X dX9_dearestToLeave_49 rfl (Nat.le_of_ble_eq_true rfl) rfl ?_
      refine zv_iconst (v := (0 : Int32)) X dX9_dearestToLeave_50 zic_0 ?_
      refine zv_istore_n (i := 2) (lv' := [(2, .int (0 : Int32)), (1, .int (0 : Int32)), (0, .ref 0)]) X dX9_dearestToLeave_51 rfl (Nat.le_of_ble_eq_true rfl) rfl ?_
      exact zv_pick X [2, 1, 0] rfl (k_X9_dearestToLeave_L52 q hd X _ _ _ _ e)
    · replace e := zif e c2
      refine zv_aload_n X dX9_dearestToLeave_13 rfl rfl ?_
      refine zv_iload_n X dX9_dearestToLeave_14 rfl rfl ?_
      refine zb e (fun q3 gq3 e => ?_)
      refine zv_callV (stk := [.int a1, .ref 0]) (as := [.int a1]) (st := []) (k := 0) X zl_RX9_203 zm_X9_riskOf (k_X9_riskOf (d := d - 1) (by omega) gq3) (by omega) zb_0 (by rw [zk_0]; rfl) rfl rfl (Nat.le_of_ble_eq_true rfl) (Nat.le_refl _) rfl dX9_dearestToLeave_15 ?_
      show J 18 [(0, .ref 0), (1, .int a1)] [.int q3.1] 117 zRF q3.2
      refine zv_istore_n (i := 2) (lv' := [(2, .int q3.1), (0, .ref 0), (1, .int a1)]) X dX9_dearestToLeave_18 rfl (Nat.le_of_ble_eq_true rfl) rfl ?_
      refine zv_aload_n X dX9_dearestToLeave_19 rfl rfl ?_
      refine zv_getR X zf_RX9_20 znt_a zk_0 zb_0 zr_0_3 dX9_dearestToLeave_20 ?_
      refine zv_iload_n X dX9_dearestToLeave_23 rfl rfl ?_
      refine zv_iload_n X dX9_dearestToLeave_24 rfl rfl ?_
      refine zv_aload_n X dX9_dearestToLeave_25 rfl rfl ?_
      refine zv_iload_n X dX9_dearestToLeave_26 rfl rfl ?_
      refine zv_iload_n X dX9_dearestToLeave_27 rfl rfl ?_
      refine zb e (fun q4 gq4 e => ?_)
      refine zv_callV (stk := [.int q3.1, .int a1, .ref 0, .int q3.1, .int a1, .ref 4]) (as := [.int a1, .int q3.1]) (st := [.int q3.1, .int a1, .ref 4]) (k := 0) X zl_RX9_206 zm_X9_dueOf (k_X9_dueOf (d := d - 1) (by omega) gq4) (by omega) zb_0 (by rw [zk_0]; rfl) rfl rfl (Nat.le_of_ble_eq_true rfl) (Nat.le_refl _) rfl dX9_dearestToLeave_28 ?_
      show J 31 [(2, .int q3.1), (0, .ref 0), (1, .int a1)] [.int q4.1, .int q3.1, .int a1, .ref 4] 117 zRF q4.2
      refine zv_aload_n X dX9_dearestToLeave_31 rfl rfl ?_
      refine zv_getI X zf_RX9_95 zk_0 zb_0 dX9_dearestToLeave_32 ?_
      refine zv_bipush (v := (7 : Int32)) X dX9_dearestToLeave_35 zbp_7 ?_
      refine zv_iadd X dX9_dearestToLeave_37 ?_
      refine zb e (fun q5 gq5 e => ?_)
      refine zv_callS (stk := [.int ((q4.2.1 0 14) + (7 : Int32)), .int q4.1, .int q3.1, .int a1, .ref 4]) (as := [.int q3.1, .int q4.1, .int ((q4.2.1 0 14) + (7 : Int32))]) (st := [.int a1, .ref 4]) X zl_RX9_209 zm_X9_delayCost (k_X9_delayCost (d := d - 1) (by omega) gq5) (by omega) rfl (Nat.le_of_ble_eq_true rfl) (Nat.le_refl _) rfl dX9_dearestToLeave_38 ?_
      show J 41 [(2, .int q3.1), (0, .ref 0), (1, .int a1)] [.int q5.1, .int a1, .ref 4] 117 zRF q5.2
      refine zb e (fun h6 gh6 e => ?_)
      refine zv_iast X zk_4 zl_4 zb_4 dX9_dearestToLeave_41 gh6 ?_
      refine zv_iinc (k := 2) (v := a1 + (1 : Int32)) (lv' := [(1, .int (a1 + (1 : Int32))), (2, .int q3.1), (0, .ref 0)]) X dX9_dearestToLeave_42 rfl rfl (Nat.le_of_ble_eq_true rfl) rfl ?_
      refine zv_goto (tgt := 2) X dX9_dearestToLeave_45 (by decide) ?_
      exact zv_pick X [2, 0] rfl (ih _ _ e)
set_option maxRecDepth 100000 in
set_option maxHeartbeats 4000000 in
theorem k_X9_dearestToLeave {l : Launch} {D : va_G} {cy : Nat → ClassId} {S0 d : Nat} (hd : 4 ≤ d) {h : zHp} {q : (Int32 × zHp)} (e : s_X9_dearestToLeave  h = some q) : zCT l D cy S0 d yX9_dearestToLeave cX9_dearestToLeave 4 (some .int) [.ref 0] 117 zRF h (some (.int q.1)) 117 zRF q.2 := by
  unfold s_X9_dearestToLeave at e
  refine zCT_of RX9 rfl zm_X9_dearestToLeave (Nat.le_refl _) (Nat.le_of_ble_eq_true rfl) (fun J X => ?_)
  show J 0 [(0, .ref 0)] [] 117 zRF h
  refine zv_iconst (v := (0 : Int32)) X dX9_dearestToLeave_0 zic_0 ?_
  refine zv_istore_n (i := 1) (lv' := [(1, .int (0 : Int32)), (0, .ref 0)]) X dX9_dearestToLeave_1 rfl (Nat.le_of_ble_eq_true rfl) rfl ?_
  exact zv_pick X [1, 0] rfl (k_X9_dearestToLeave_L2 q hd X _ _ _ e)
-- J7_fill_53178_42
def s_J7_fill_53178_42_L5 : Nat → Int32 → Int32 → Int32 → zHp → Option zHp
  | 0, _, _, _, _ => none
  | f + 1, a1, a2, a3, h =>
  if a3 ≤ a2 then
    some h
  else
    (zui h 42 15 a2 a1).bind fun h2 =>
    s_J7_fill_53178_42_L5 f a1 (a2 + (1 : Int32)) a3 h2
def s_J7_fill_53178_42 (a1 : Int32) (h : zHp) : Option zHp :=
  s_J7_fill_53178_42_L5 zFU a1 (0 : Int32) (15 : Int32) h
set_option maxRecDepth 100000 in
set_option maxHeartbeats 4000000 in
theorem k_J7_fill_53178_42_L5 {l : Launch} {D : va_G} {cy : Nat → ClassId} {S0 d : Nat} {N : Nat} {rf : zRf} (hkN : 42 < N) {J : zJ} (q : zHp) (hd : 0 ≤ d) (X : zOK l D cy S0 d RJ7 cJ7_fill_53178 4 (yJ7_fill_53178.name == "<init>") N N none (zRT N rf none q) J) : ∀ (f : Nat) (a1 : Int32) (a2 : Int32) (a3 : Int32) (h : zHp), s_J7_fill_53178_42_L5 f a1 a2 a3 h = some q → J 5 [(0, .ref 42), (1, .int a1), (2, .int a2), (3, .int a3)] [] N rf h := by
  intro f
  induction f with
  | zero => intro _ _ _ h e; exact absurd e (fun z => by cases z)
  | succ f ih =>
    intro a1 a2 a3 h e
    rw [s_J7_fill_53178_42_L5] at e
    refine zv_iload_n X dJ7_fill_53178_5 rfl rfl ?_
    refine zv_iload_n X dJ7_fill_53178_6 rfl rfl ?_
    refine zv_icmp_ge (tgt := 20) X dJ7_fill_53178_7 (by decide) (fun c1 => ?_) (fun c1 => ?_)
    · replace e := zit e c1
      exact zv_retV X e rfl dJ7_fill_53178_20
    · replace e := zif e c1
      refine zv_aload_n X dJ7_fill_53178_10 rfl rfl ?_
      refine zv_iload_n X dJ7_fill_53178_11 rfl rfl ?_
      refine zv_iload_n X dJ7_fill_53178_12 rfl rfl ?_
      refine zb e (fun h2 gh2 e => ?_)
      refine zv_iast X zk_42 zl_42 hkN dJ7_fill_53178_13 gh2 ?_
      refine zv_iinc (k := 2) (v := a2 + (1 : Int32)) (lv' := [(2, .int (a2 + (1 : Int32))), (0, .ref 42), (1, .int a1), (3, .int a3)]) X dJ7_fill_53178_14 rfl rfl (Nat.le_of_ble_eq_true rfl) rfl ?_
      refine zv_goto (tgt := 5) X dJ7_fill_53178_17 (by decide) ?_
      exact zv_pick X [1, 2, 0, 3] rfl (ih _ _ _ _ e)
set_option maxRecDepth 100000 in
set_option maxHeartbeats 4000000 in
theorem k_J7_fill_53178_42 {l : Launch} {D : va_G} {cy : Nat → ClassId} {S0 d : Nat} {N : Nat} {rf : zRf} (hkN : 42 < N) (hd : 0 ≤ d) {a1 : Int32} {h : zHp} {q : zHp} (e : s_J7_fill_53178_42 a1 h = some q) : zCT l D cy S0 d yJ7_fill_53178 cJ7_fill_53178 4 none [.ref 42, .int a1] N rf h none N rf q := by
  unfold s_J7_fill_53178_42 at e
  refine zCT_of RJ7 rfl zm_J7_fill_53178 (Nat.le_refl _) (Nat.le_of_ble_eq_true rfl) (fun J X => ?_)
  show J 0 [(0, .ref 42), (1, .int a1)] [] N rf h
  refine zv_iconst (v := (0 : Int32)) X dJ7_fill_53178_0 zic_0 ?_
  refine zv_istore_n (i := 2) (lv' := [(2, .int (0 : Int32)), (0, .ref 42), (1, .int a1)]) X dJ7_fill_53178_1 rfl (Nat.le_of_ble_eq_true rfl) rfl ?_
  refine zv_aload_n X dJ7_fill_53178_2 rfl rfl ?_
  refine zv_alenI (v := (15 : Int32)) X zk_42 zl_42 (by decide) hkN dJ7_fill_53178_3 ?_
  refine zv_istore_n (i := 3) (lv' := [(3, .int (15 : Int32)), (2, .int (0 : Int32)), (0, .ref 42), (1, .int a1)]) X dJ7_fill_53178_4 rfl (Nat.le_of_ble_eq_true rfl) rfl ?_
  exact zv_pick X [2, 3, 1, 0] rfl (k_J7_fill_53178_42_L5 hkN q hd X _ _ _ _ _ e)
-- X8_open
def s_X8_open (a1 : Int32) (a2 : Int32) (h : zHp) : Option zHp :=
  (zpi h 35 10 (0 : Int32)).bind fun h1 =>
  (s_J9_min_7cf53 a1 (3 : Int32) h1).bind fun q2 =>
  (s_J9_max_7cf53 (0 : Int32) q2.1 q2.2).bind fun q3 =>
  (some ((1 : Int32) <<< (q3.1 &&& 31))).bind fun v4 =>
  (zpi q3.2 35 11 v4).bind fun h5 =>
  (s_J7_fill_53178_42 a2 h5).bind fun q6 =>
  some q6
set_option maxRecDepth 100000 in
set_option maxHeartbeats 4000000 in
theorem k_X8_open {l : Launch} {D : va_G} {cy : Nat → ClassId} {S0 d : Nat} (hd : 1 ≤ d) {a1 : Int32} {a2 : Int32} {h : zHp} {q : zHp} (e : s_X8_open a1 a2 h = some q) : zCT l D cy S0 d yX8_open cX8_open 3 none [.ref 35, .int a1, .int a2] 117 zRF h none 117 zRF q := by
  unfold s_X8_open at e
  refine zCT_of RX8 rfl zm_X8_open (Nat.le_refl _) (Nat.le_of_ble_eq_true rfl) (fun J X => ?_)
  show J 0 [(0, .ref 35), (1, .int a1), (2, .int a2)] [] 117 zRF h
  refine zv_aload_n X dX8_open_0 rfl rfl ?_
  refine zv_iconst (v := (0 : Int32)) X dX8_open_1 zic_0 ?_
  refine zb e (fun h1 gh1 e => ?_)
  refine zv_putI' X zf_RX8_42 zk_35 zb_35 dX8_open_2 gh1 ?_
  refine zv_aload_n X dX8_open_5 rfl rfl ?_
  refine zv_iconst (v := (1 : Int32)) X dX8_open_6 zic_1 ?_
  refine zv_iconst (v := (0 : Int32)) X dX8_open_7 zic_0 ?_
  refine zv_iload_n X dX8_open_8 rfl rfl ?_
  refine zv_iconst (v := (3 : Int32)) X dX8_open_9 zic_3 ?_
  refine zb e (fun q2 gq2 e => ?_)
  refine zv_callS (stk := [.int (3 : Int32), .int a1, .int (0 : Int32), .int (1 : Int32), .ref 35]) (as := [.int a1, .int (3 : Int32)]) (st := [.int (0 : Int32), .int (1 : Int32), .ref 35]) X zl_RX8_49 zm_J9_min_7cf53 (k_J9_min_7cf53 (d := d - 1) (by omega) gq2) (by omega) rfl (Nat.le_of_ble_eq_true rfl) (Nat.le_refl _) rfl dX8_open_10 ?_
  show J 13 [(0, .ref 35), (1, .int a1), (2, .int a2)] [.int q2.1, .int (0 : Int32), .int (1 : Int32), .ref 35] 117 zRF q2.2
  refine zb e (fun q3 gq3 e => ?_)
  refine zv_callS (stk := [.int q2.1, .int (0 : Int32), .int (1 : Int32), .ref 35]) (as := [.int (0 : Int32), .int q2.1]) (st := [.int (1 : Int32), .ref 35]) X zl_RX8_55 zm_J9_max_7cf53 (k_J9_max_7cf53 (d := d - 1) (by omega) gq3) (by omega) rfl (Nat.le_of_ble_eq_true rfl) (Nat.le_refl _) rfl dX8_open_13 ?_
  show J 16 [(0, .ref 35), (1, .int a1), (2, .int a2)] [.int q3.1, .int (1 : Int32), .ref 35] 117 zRF q3.2
  refine zv_ishl X dX8_open_16 ?_
  refine zb e (fun v4 gv4 e => ?_)
  refine zv_nmI X gv4 ?_
  refine zb e (fun h5 gh5 e => ?_)
  refine zv_putI' X zf_RX8_46 zk_35 zb_35 dX8_open_17 gh5 ?_
  refine zv_aload_n X dX8_open_20 rfl rfl ?_
  refine zv_getR X zf_RX8_30 znt_a zk_35 zb_35 zr_35_6 dX8_open_21 ?_
  refine zv_iload_n X dX8_open_24 rfl rfl ?_
  refine zb e (fun q6 gq6 e => ?_)
  refine zv_callS (stk := [.int a2, .ref 42]) (as := [.ref 42, .int a2]) (st := []) X zl_RX8_58 zm_J7_fill_53178 (k_J7_fill_53178_42 (d := d - 1) zb_42 (by omega) gq6) (by omega) rfl (Nat.le_of_ble_eq_true rfl) (Nat.le_refl _) rfl dX8_open_25 ?_
  show J 28 [(0, .ref 35), (1, .int a1), (2, .int a2)] [] 117 zRF q6
  exact zv_retV X e rfl dX8_open_28
-- X9_handsFree
def s_X9_handsFree_L34 (k5 : Int32 → Int32 → Int32 → Int32 → zHp → Option (Int32 × zHp)) (a1 : Int32) (a2 : Int32) (a3 : Int32) (a4 : Int32) (h : zHp) : Option (Int32 × zHp) :=
  k5 a1 a2 a3 (a4 + (1 : Int32)) h
def s_X9_handsFree_L40 (a3 : Int32) (h : zHp) : Option (Int32 × zHp) :=
  some (a3, h)
def s_X9_handsFree_L5 : Nat → Int32 → Int32 → Int32 → Int32 → zHp → Option (Int32 × zHp)
  | 0, _, _, _, _, _ => none
  | f + 1, a1, a2, a3, a4, h =>
  if a2 ≤ a4 then
    s_X9_handsFree_L40 a3 h
  else
    if (5 : Int32) ≤ a4 then
      s_X9_handsFree_L40 a3 h
    else
      (s_X9_isKin a4 a1 h).bind fun q3 =>
      if q3.1 = 0 then
        (some (a3 ||| ((1 : Int32) <<< (a4 &&& 31)))).bind fun v5 =>
        s_X9_handsFree_L34 (s_X9_handsFree_L5 f) a1 a2 v5 a4 q3.2
      else
        s_X9_handsFree_L34 (s_X9_handsFree_L5 f) a1 a2 a3 a4 q3.2
def s_X9_handsFree (a1 : Int32) (a2 : Int32) (h : zHp) : Option (Int32 × zHp) :=
  s_X9_handsFree_L5 zFU a1 a2 (0 : Int32) (0 : Int32) h
set_option maxRecDepth 100000 in
set_option maxHeartbeats 4000000 in
theorem k_X9_handsFree_L34 {l : Launch} {D : va_G} {cy : Nat → ClassId} {S0 d : Nat} {J : zJ} (q : (Int32 × zHp)) (hd : 1 ≤ d) (X : zOK l D cy S0 d RX9 cX9_handsFree 5 (yX9_handsFree.name == "<init>") 117 117 (some .int) (zRT 117 zRF (some (.int q.1)) q.2) J) {k5 : Int32 → Int32 → Int32 → Int32 → zHp → Option (Int32 × zHp)} (hk5 : ∀ (a1 : Int32) (a2 : Int32) (a3 : Int32) (a4 : Int32) (h : zHp), k5 a1 a2 a3 a4 h = some q → J 5 [(0, .ref 0), (1, .int a1), (2, .int a2), (3, .int a3), (4, .int a4)] [] 117 zRF h) : ∀ (a1 : Int32) (a2 : Int32) (a3 : Int32) (a4 : Int32) (h : zHp), s_X9_handsFree_L34 k5 a1 a2 a3 a4 h = some q → J 34 [(0, .ref 0), (1, .int a1), (2, .int a2), (3, .int a3), (4, .int a4)] [] 117 zRF h := by
  intro a1 a2 a3 a4 h e
  unfold s_X9_handsFree_L34 at e
  refine zv_iinc (k := 4) (v := a4 + (1 : Int32)) (lv' := [(4, .int (a4 + (1 : Int32))), (0, .ref 0), (1, .int a1), (2, .int a2), (3, .int a3)]) X dX9_handsFree_34 rfl rfl (Nat.le_of_ble_eq_true rfl) rfl ?_
  refine zv_goto (tgt := 5) X dX9_handsFree_37 (by decide) ?_
  exact zv_pick X [1, 2, 3, 4, 0] rfl (hk5 _ _ _ _ _ e)
set_option maxRecDepth 100000 in
set_option maxHeartbeats 4000000 in
theorem k_X9_handsFree_L40 {l : Launch} {D : va_G} {cy : Nat → ClassId} {S0 d : Nat} {J : zJ} (q : (Int32 × zHp)) (hd : 1 ≤ d) (X : zOK l D cy S0 d RX9 cX9_handsFree 5 (yX9_handsFree.name == "<init>") 117 117 (some .int) (zRT 117 zRF (some (.int q.1)) q.2) J) : ∀ (a3 : Int32) (h : zHp), s_X9_handsFree_L40 a3 h = some q → J 40 [(3, .int a3)] [] 117 zRF h := by
  intro a3 h e
  unfold s_X9_handsFree_L40 at e
  refine zv_iload_n X dX9_handsFree_40 rfl rfl ?_
  exact zv_retI X e rfl dX9_handsFree_41
set_option maxRecDepth 100000 in
set_option maxHeartbeats 4000000 in
theorem k_X9_handsFree_L5 {l : Launch} {D : va_G} {cy : Nat → ClassId} {S0 d : Nat} {J : zJ} (q : (Int32 × zHp)) (hd : 1 ≤ d) (X : zOK l D cy S0 d RX9 cX9_handsFree 5 (yX9_handsFree.name == "<init>") 117 117 (some .int) (zRT 117 zRF (some (.int q.1)) q.2) J) : ∀ (f : Nat) (a1 : Int32) (a2 : Int32) (a3 : Int32) (a4 : Int32) (h : zHp), s_X9_handsFree_L5 f a1 a2 a3 a4 h = some q → J 5 [(0, .ref 0), (1, .int a1), (2, .int a2), (3, .int a3), (4, .int a4)] [] 117 zRF h := by
  intro f
  induction f with
  | zero => intro _ _ _ _ h e; exact absurd e (fun z => by cases z)
  | succ f ih =>
    intro a1 a2 a3 a4 h e
    rw [s_X9_handsFree_L5] at e
    refine zv_iload X dX9_handsFree_5 rfl ?_
    refine zv_iload_n X dX9_handsFree_7 rfl rfl ?_
    refine zv_icmp_ge (tgt := 40) X dX9_handsFree_8 (by decide) (fun c1 => ?_) (fun c1 => ?_)
    · replace e := zit e c1
      exact zv_pick X [3] rfl (k_X9_handsFree_L40 q hd X _ _ e)
    · replace e := zif e c1
      refine zv_iload X dX9_handsFree_11 rfl ?_
      refine zv_iconst (v := (5 : Int32)) X dX9_handsFree_13 zic_5 ?_
      refine zv_icmp_ge (tgt := 40) X dX9_handsFree_14 (by decide) (fun c2 => ?_) (fun c2 => ?_)
      · replace e := zit e c2
        exact zv_pick X [3] rfl (k_X9_handsFree_L40 q hd X _ _ e)
      · replace e := zif e c2
        refine zv_aload_n X dX9_handsFree_17 rfl rfl ?_
        refine zv_iload X dX9_handsFree_18 rfl ?_
        refine zv_iload_n X dX9_handsFree_20 rfl rfl ?_
        refine zb e (fun q3 gq3 e => ?_)
        refine zv_callV (stk := [.int a1, .int a4, .ref 0]) (as := [.int a4, .int a1]) (st := []) (k := 0) X zl_RX9_154 zm_X9_isKin (k_X9_isKin (d := d - 1) (by omega) gq3) (by omega) zb_0 (by rw [zk_0]; rfl) rfl rfl (Nat.le_of_ble_eq_true rfl) (Nat.le_refl _) rfl dX9_handsFree_21 ?_
        show J 24 [(0, .ref 0), (1, .int a1), (2, .int a2), (3, .int a3), (4, .int a4)] [.int q3.1] 117 zRF q3.2
        refine zv_if_ne (tgt := 34) X dX9_handsFree_24 (by decide) (fun c4 => ?_) (fun c4 => ?_)
        · replace e := zif e c4
          exact k_X9_handsFree_L34 q hd X ih _ _ _ _ _ e
        · replace e := zit e c4
          refine zv_iload_n X dX9_handsFree_27 rfl rfl ?_
          refine zv_iconst (v := (1 : Int32)) X dX9_handsFree_28 zic_1 ?_
          refine zv_iload X dX9_handsFree_29 rfl ?_
          refine zv_ishl X dX9_handsFree_31 ?_
          refine zv_ior X dX9_handsFree_32 ?_
          refine zb e (fun v5 gv5 e => ?_)
          refine zv_nmI X gv5 ?_
          refine zv_istore_n (i := 3) (lv' := [(3, .int v5), (0, .ref 0), (1, .int a1), (2, .int a2), (4, .int a4)]) X dX9_handsFree_33 rfl (Nat.le_of_ble_eq_true rfl) rfl ?_
          exact zv_pick X [1, 2, 3, 0, 4] rfl (k_X9_handsFree_L34 q hd X ih _ _ _ _ _ e)
set_option maxRecDepth 100000 in
set_option maxHeartbeats 4000000 in
theorem k_X9_handsFree {l : Launch} {D : va_G} {cy : Nat → ClassId} {S0 d : Nat} (hd : 1 ≤ d) {a1 : Int32} {a2 : Int32} {h : zHp} {q : (Int32 × zHp)} (e : s_X9_handsFree a1 a2 h = some q) : zCT l D cy S0 d yX9_handsFree cX9_handsFree 5 (some .int) [.ref 0, .int a1, .int a2] 117 zRF h (some (.int q.1)) 117 zRF q.2 := by
  unfold s_X9_handsFree at e
  refine zCT_of RX9 rfl zm_X9_handsFree (Nat.le_refl _) (Nat.le_of_ble_eq_true rfl) (fun J X => ?_)
  show J 0 [(0, .ref 0), (1, .int a1), (2, .int a2)] [] 117 zRF h
  refine zv_iconst (v := (0 : Int32)) X dX9_handsFree_0 zic_0 ?_
  refine zv_istore_n (i := 3) (lv' := [(3, .int (0 : Int32)), (0, .ref 0), (1, .int a1), (2, .int a2)]) X dX9_handsFree_1 rfl (Nat.le_of_ble_eq_true rfl) rfl ?_
  refine zv_iconst (v := (0 : Int32)) X dX9_handsFree_2 zic_0 ?_
  refine zv_istore (i := 4) (lv' := [(4, .int (0 : Int32)), (3, .int (0 : Int32)), (0, .ref 0), (1, .int a1), (2, .int a2)]) X dX9_handsFree_3 (Nat.le_of_ble_eq_true rfl) rfl ?_
  exact zv_pick X [2, 3, 4, 1, 0] rfl (k_X9_handsFree_L5 q hd X _ _ _ _ _ _ e)
-- X8_add
def s_X8_add (a1 : Int32) (a2 : Int32) (a3 : Int32) (h : zHp) : Option (Int32 × zHp) :=
  (s_J9_min_7cf53 (h.1 35 10) (5 : Int32) h).bind fun q1 =>
  (zui q1.2 36 6 q1.1 a1).bind fun h2 =>
  (zui h2 37 6 q1.1 a2).bind fun h3 =>
  (zui h3 38 6 q1.1 a3).bind fun h4 =>
  (some (q1.1 + (1 : Int32))).bind fun v5 =>
  (zpi h4 35 10 v5).bind fun h6 =>
  some (q1.1, h6)
set_option maxRecDepth 100000 in
set_option maxHeartbeats 4000000 in
theorem k_X8_add {l : Launch} {D : va_G} {cy : Nat → ClassId} {S0 d : Nat} (hd : 1 ≤ d) {a1 : Int32} {a2 : Int32} {a3 : Int32} {h : zHp} {q : (Int32 × zHp)} (e : s_X8_add a1 a2 a3 h = some q) : zCT l D cy S0 d yX8_add cX8_add 5 (some .int) [.ref 35, .int a1, .int a2, .int a3] 117 zRF h (some (.int q.1)) 117 zRF q.2 := by
  unfold s_X8_add at e
  refine zCT_of RX8 rfl zm_X8_add (Nat.le_refl _) (Nat.le_of_ble_eq_true rfl) (fun J X => ?_)
  show J 0 [(0, .ref 35), (1, .int a1), (2, .int a2), (3, .int a3)] [] 117 zRF h
  refine zv_aload_n X dX8_add_0 rfl rfl ?_
  refine zv_getI X zf_RX8_42 zk_35 zb_35 dX8_add_1 ?_
  refine zv_iconst (v := (5 : Int32)) X dX8_add_4 zic_5 ?_
  refine zb e (fun q1 gq1 e => ?_)
  refine zv_callS (stk := [.int (5 : Int32), .int (h.1 35 10)]) (as := [.int (h.1 35 10), .int (5 : Int32)]) (st := []) X zl_RX8_49 zm_J9_min_7cf53 (k_J9_min_7cf53 (d := d - 1) (by omega) gq1) (by omega) rfl (Nat.le_of_ble_eq_true rfl) (Nat.le_refl _) rfl dX8_add_5 ?_
  show J 8 [(0, .ref 35), (1, .int a1), (2, .int a2), (3, .int a3)] [.int q1.1] 117 zRF q1.2
  refine zv_istore (i := 4) (lv' := [(4, .int q1.1), (0, .ref 35), (1, .int a1), (2, .int a2), (3, .int a3)]) X dX8_add_8 (Nat.le_of_ble_eq_true rfl) rfl ?_
  refine zv_aload_n X dX8_add_10 rfl rfl ?_
  refine zv_getR X zf_RX8_9 znt_a zk_35 zb_35 zr_35_0 dX8_add_11 ?_
  refine zv_iload X dX8_add_14 rfl ?_
  refine zv_iload_n X dX8_add_16 rfl rfl ?_
  refine zb e (fun h2 gh2 e => ?_)
  refine zv_iast X zk_36 zl_36 zb_36 dX8_add_17 gh2 ?_
  refine zv_aload_n X dX8_add_18 rfl rfl ?_
  refine zv_getR X zf_RX8_15 znt_a zk_35 zb_35 zr_35_1 dX8_add_19 ?_
  refine zv_iload X dX8_add_22 rfl ?_
  refine zv_iload_n X dX8_add_24 rfl rfl ?_
  refine zb e (fun h3 gh3 e => ?_)
  refine zv_iast X zk_37 zl_37 zb_37 dX8_add_25 gh3 ?_
  refine zv_aload_n X dX8_add_26 rfl rfl ?_
  refine zv_getR X zf_RX8_18 znt_a zk_35 zb_35 zr_35_2 dX8_add_27 ?_
  refine zv_iload X dX8_add_30 rfl ?_
  refine zv_iload_n X dX8_add_32 rfl rfl ?_
  refine zb e (fun h4 gh4 e => ?_)
  refine zv_iast X zk_38 zl_38 zb_38 dX8_add_33 gh4 ?_
  refine zv_aload_n X dX8_add_34 rfl rfl ?_
  refine zv_iload X dX8_add_35 rfl ?_
  refine zv_iconst (v := (1 : Int32)) X dX8_add_37 zic_1 ?_
  refine zv_iadd X dX8_add_38 ?_
  refine zb e (fun v5 gv5 e => ?_)
  refine zv_nmI X gv5 ?_
  refine zb e (fun h6 gh6 e => ?_)
  refine zv_putI' X zf_RX8_42 zk_35 zb_35 dX8_add_39 gh6 ?_
  refine zv_iload X dX8_add_42 rfl ?_
  exact zv_retI X e rfl dX8_add_44
-- X8_setPrice
def s_X8_setPrice (a1 : Int32) (a2 : Int32) (a3 : Int32) (h : zHp) : Option zHp :=
  (zui h 39 36 ((a1 * (6 : Int32)) + a2) a3).bind fun h1 =>
  some h1
set_option maxRecDepth 100000 in
set_option maxHeartbeats 4000000 in
theorem k_X8_setPrice {l : Launch} {D : va_G} {cy : Nat → ClassId} {S0 d : Nat} (hd : 0 ≤ d) {a1 : Int32} {a2 : Int32} {a3 : Int32} {h : zHp} {q : zHp} (e : s_X8_setPrice a1 a2 a3 h = some q) : zCT l D cy S0 d yX8_setPrice cX8_setPrice 4 none [.ref 35, .int a1, .int a2, .int a3] 117 zRF h none 117 zRF q := by
  unfold s_X8_setPrice at e
  refine zCT_of RX8 rfl zm_X8_setPrice (Nat.le_refl _) (Nat.le_of_ble_eq_true rfl) (fun J X => ?_)
  show J 0 [(0, .ref 35), (1, .int a1), (2, .int a2), (3, .int a3)] [] 117 zRF h
  refine zv_aload_n X dX8_setPrice_0 rfl rfl ?_
  refine zv_getR X zf_RX8_21 znt_a zk_35 zb_35 zr_35_3 dX8_setPrice_1 ?_
  refine zv_iload_n X dX8_setPrice_4 rfl rfl ?_
  refine zv_bipush (v := (6 : Int32)) X dX8_setPrice_5 zbp_6 ?_
  refine zv_imul X dX8_setPrice_7 ?_
  refine zv_iload_n X dX8_setPrice_8 rfl rfl ?_
  refine zv_iadd X dX8_setPrice_9 ?_
  refine zv_iload_n X dX8_setPrice_10 rfl rfl ?_
  refine zb e (fun h1 gh1 e => ?_)
  refine zv_iast X zk_39 zl_39 zb_39 dX8_setPrice_11 gh1 ?_
  exact zv_retV X e rfl dX8_setPrice_12
-- X9_enterWeek
def s_X9_enterWeek_L60 : Nat → Int32 → Int32 → Int32 → Int32 → Int32 → zHp → Option zHp
  | 0, _, _, _, _, _, _ => none
  | f + 1, a1, a3, a4, a6, a7, h =>
  if (5 : Int32) ≤ a7 then
    (zri h 4 20 a1).bind fun v2 =>
    (s_X8_setPrice a6 (5 : Int32) ((2 : Int32) * v2) h).bind fun q3 =>
    some q3
  else
    (s_X9_delayCost a3 a4 ((h.1 0 14) + a7) h).bind fun q4 =>
    (s_X8_setPrice a6 a7 q4.1 q4.2).bind fun q5 =>
    s_X9_enterWeek_L60 f a1 a3 a4 a6 (a7 + (1 : Int32)) q5
def s_X9_enterWeek_L30 (a1 : Int32) (a2 : Int32) (a3 : Int32) (a4 : Int32) (b0 : Int32) (h : zHp) : Option zHp :=
  (s_X4_ownerOf a1 h).bind fun q1 =>
  (s_X9_handsFree q1.1 a2 q1.2).bind fun q2 =>
  (s_X8_add a1 b0 q2.1 q2.2).bind fun q3 =>
  s_X9_enterWeek_L60 zFU a1 a3 a4 q3.1 (0 : Int32) q3.2
def s_X9_enterWeek (a1 : Int32) (a2 : Int32) (h : zHp) : Option zHp :=
  (s_X9_riskOf a1 h).bind fun q1 =>
  (s_X9_dueOf a1 q1.1 q1.2).bind fun q2 =>
  (s_X4_isHard a1 q2.2).bind fun q3 =>
  if q3.1 = 0 then
    s_X9_enterWeek_L30 a1 a2 q1.1 q2.1 (1 : Int32) q3.2
  else
    s_X9_enterWeek_L30 a1 a2 q1.1 q2.1 (2 : Int32) q3.2
set_option maxRecDepth 100000 in
set_option maxHeartbeats 4000000 in
theorem k_X9_enterWeek_L60 {l : Launch} {D : va_G} {cy : Nat → ClassId} {S0 d : Nat} {J : zJ} (q : zHp) (hd : 4 ≤ d) (X : zOK l D cy S0 d RX9 cX9_enterWeek 8 (yX9_enterWeek.name == "<init>") 117 117 none (zRT 117 zRF none q) J) : ∀ (f : Nat) (a1 : Int32) (a3 : Int32) (a4 : Int32) (a6 : Int32) (a7 : Int32) (h : zHp), s_X9_enterWeek_L60 f a1 a3 a4 a6 a7 h = some q → J 60 [(0, .ref 0), (1, .int a1), (3, .int a3), (4, .int a4), (6, .int a6), (7, .int a7)] [] 117 zRF h := by
  intro f
  induction f with
  | zero => intro _ _ _ _ _ h e; exact absurd e (fun z => by cases z)
  | succ f ih =>
    intro a1 a3 a4 a6 a7 h e
    rw [s_X9_enterWeek_L60] at e
    refine zv_iload X dX9_enterWeek_60 rfl ?_
    refine zv_iconst (v := (5 : Int32)) X dX9_enterWeek_62 zic_5 ?_
    refine zv_icmp_ge (tgt := 96) X dX9_enterWeek_63 (by decide) (fun c1 => ?_) (fun c1 => ?_)
    · replace e := zit e c1
      refine zv_aload_n X dX9_enterWeek_96 rfl rfl ?_
      refine zv_getR X zf_RX9_59 znt_o zk_0 zb_0 zr_0_9 dX9_enterWeek_97 ?_
      refine zv_iload X dX9_enterWeek_100 rfl ?_
      refine zv_iconst (v := (5 : Int32)) X dX9_enterWeek_102 zic_5 ?_
      refine zv_iconst (v := (2 : Int32)) X dX9_enterWeek_103 zic_2 ?_
      refine zv_aload_n X dX9_enterWeek_104 rfl rfl ?_
      refine zv_getR X zf_RX9_20 znt_a zk_0 zb_0 zr_0_3 dX9_enterWeek_105 ?_
      refine zv_iload_n X dX9_enterWeek_108 rfl rfl ?_
      refine zb e (fun v2 gv2 e => ?_)
      refine zv_iald X zk_4 zl_4 zb_4 dX9_enterWeek_109 gv2 ?_
      refine zv_imul X dX9_enterWeek_110 ?_
      refine zb e (fun q3 gq3 e => ?_)
      refine zv_callV (stk := [.int ((2 : Int32) * v2), .int (5 : Int32), .int a6, .ref 35]) (as := [.int a6, .int (5 : Int32), .int ((2 : Int32) * v2)]) (st := []) (k := 35) X zl_RX9_334 zm_X8_setPrice (k_X8_setPrice (d := d - 1) (by omega) gq3) (by omega) zb_35 (by rw [zk_35]; rfl) rfl rfl (Nat.le_of_ble_eq_true rfl) (Nat.le_refl _) rfl dX9_enterWeek_111 ?_
      show J 114 [(0, .ref 0), (1, .int a1), (3, .int a3), (4, .int a4), (6, .int a6), (7, .int a7)] [] 117 zRF q3
      exact zv_retV X e rfl dX9_enterWeek_114
    · replace e := zif e c1
      refine zv_aload_n X dX9_enterWeek_66 rfl rfl ?_
      refine zv_getR X zf_RX9_59 znt_o zk_0 zb_0 zr_0_9 dX9_enterWeek_67 ?_
      refine zv_iload X dX9_enterWeek_70 rfl ?_
      refine zv_iload X dX9_enterWeek_72 rfl ?_
      refine zv_iload_n X dX9_enterWeek_74 rfl rfl ?_
      refine zv_iload X dX9_enterWeek_75 rfl ?_
      refine zv_aload_n X dX9_enterWeek_77 rfl rfl ?_
      refine zv_getI X zf_RX9_95 zk_0 zb_0 dX9_enterWeek_78 ?_
      refine zv_iload X dX9_enterWeek_81 rfl ?_
      refine zv_iadd X dX9_enterWeek_83 ?_
      refine zb e (fun q4 gq4 e => ?_)
      refine zv_callS (stk := [.int ((h.1 0 14) + a7), .int a4, .int a3, .int a7, .int a6, .ref 35]) (as := [.int a3, .int a4, .int ((h.1 0 14) + a7)]) (st := [.int a7, .int a6, .ref 35]) X zl_RX9_209 zm_X9_delayCost (k_X9_delayCost (d := d - 1) (by omega) gq4) (by omega) rfl (Nat.le_of_ble_eq_true rfl) (Nat.le_refl _) rfl dX9_enterWeek_84 ?_
      show J 87 [(0, .ref 0), (1, .int a1), (3, .int a3), (4, .int a4), (6, .int a6), (7, .int a7)] [.int q4.1, .int a7, .int a6, .ref 35] 117 zRF q4.2
      refine zb e (fun q5 gq5 e => ?_)
      refine zv_callV (stk := [.int q4.1, .int a7, .int a6, .ref 35]) (as := [.int a6, .int a7, .int q4.1]) (st := []) (k := 35) X zl_RX9_334 zm_X8_setPrice (k_X8_setPrice (d := d - 1) (by omega) gq5) (by omega) zb_35 (by rw [zk_35]; rfl) rfl rfl (Nat.le_of_ble_eq_true rfl) (Nat.le_refl _) rfl dX9_enterWeek_87 ?_
      show J 90 [(0, .ref 0), (1, .int a1), (3, .int a3), (4, .int a4), (6, .int a6), (7, .int a7)] [] 117 zRF q5
      refine zv_iinc (k := 5) (v := a7 + (1 : Int32)) (lv' := [(7, .int (a7 + (1 : Int32))), (0, .ref 0), (1, .int a1), (3, .int a3), (4, .int a4), (6, .int a6)]) X dX9_enterWeek_90 rfl rfl (Nat.le_of_ble_eq_true rfl) rfl ?_
      refine zv_goto (tgt := 60) X dX9_enterWeek_93 (by decide) ?_
      exact zv_pick X [1, 2, 3, 4, 5, 0] rfl (ih _ _ _ _ _ _ e)
set_option maxRecDepth 100000 in
set_option maxHeartbeats 4000000 in
theorem k_X9_enterWeek_L30 {l : Launch} {D : va_G} {cy : Nat → ClassId} {S0 d : Nat} {J : zJ} (q : zHp) (hd : 4 ≤ d) (X : zOK l D cy S0 d RX9 cX9_enterWeek 8 (yX9_enterWeek.name == "<init>") 117 117 none (zRT 117 zRF none q) J) : ∀ (a1 : Int32) (a2 : Int32) (a3 : Int32) (a4 : Int32) (b0 : Int32) (h : zHp), s_X9_enterWeek_L30 a1 a2 a3 a4 b0 h = some q → J 30 [(0, .ref 0), (1, .int a1), (2, .int a2), (3, .int a3), (4, .int a4)] [.int b0] 117 zRF h := by
  intro a1 a2 a3 a4 b0 h e
  unfold s_X9_enterWeek_L30 at e
  refine zv_istore (i := 5) (lv' := [(5, .int b0), (0, .ref 0), (1, .int a1), (2, .int a2), (3, .int a3), (4, .int a4)]) X dX9_enterWeek_30 (Nat.le_of_ble_eq_true rfl) rfl ?_
  refine zv_aload_n X dX9_enterWeek_32 rfl rfl ?_
  refine zv_getR X zf_RX9_59 znt_o zk_0 zb_0 zr_0_9 dX9_enterWeek_33 ?_
  refine zv_iload_n X dX9_enterWeek_36 rfl rfl ?_
  refine zv_iload X dX9_enterWeek_37 rfl ?_
  refine zv_aload_n X dX9_enterWeek_39 rfl rfl ?_
  refine zv_aload_n X dX9_enterWeek_40 rfl rfl ?_
  refine zv_getR X zf_RX9_36 znt_o zk_0 zb_0 zr_0_6 dX9_enterWeek_41 ?_
  refine zv_iload_n X dX9_enterWeek_44 rfl rfl ?_
  refine zb e (fun q1 gq1 e => ?_)
  refine zv_callV (stk := [.int a1, .ref 13, .ref 0, .int b0, .int a1, .ref 35]) (as := [.int a1]) (st := [.ref 0, .int b0, .int a1, .ref 35]) (k := 13) X zl_RX9_157 zm_X4_ownerOf (k_X4_ownerOf (d := d - 1) (by omega) gq1) (by omega) zb_13 (by rw [zk_13]; rfl) rfl rfl (Nat.le_of_ble_eq_true rfl) (Nat.le_refl _) rfl dX9_enterWeek_45 ?_
  show J 48 [(5, .int b0), (0, .ref 0), (1, .int a1), (2, .int a2), (3, .int a3), (4, .int a4)] [.int q1.1, .ref 0, .int b0, .int a1, .ref 35] 117 zRF q1.2
  refine zv_iload_n X dX9_enterWeek_48 rfl rfl ?_
  refine zb e (fun q2 gq2 e => ?_)
  refine zv_callV (stk := [.int a2, .int q1.1, .ref 0, .int b0, .int a1, .ref 35]) (as := [.int q1.1, .int a2]) (st := [.int b0, .int a1, .ref 35]) (k := 0) X zl_RX9_330 zm_X9_handsFree (k_X9_handsFree (d := d - 1) (by omega) gq2) (by omega) zb_0 (by rw [zk_0]; rfl) rfl rfl (Nat.le_of_ble_eq_true rfl) (Nat.le_refl _) rfl dX9_enterWeek_49 ?_
  show J 52 [(5, .int b0), (0, .ref 0), (1, .int a1), (2, .int a2), (3, .int a3), (4, .int a4)] [.int q2.1, .int b0, .int a1, .ref 35] 117 zRF q2.2
  refine zb e (fun q3 gq3 e => ?_)
  refine zv_callV (stk := [.int q2.1, .int b0, .int a1, .ref 35]) (as := [.int a1, .int b0, .int q2.1]) (st := []) (k := 35) X zl_RX9_333 zm_X8_add (k_X8_add (d := d - 1) (by omega) gq3) (by omega) zb_35 (by rw [zk_35]; rfl) rfl rfl (Nat.le_of_ble_eq_true rfl) (Nat.le_refl _) rfl dX9_enterWeek_52 ?_
  show J 55 [(5, .int b0), (0, .ref 0), (1, .int a1), (2, .int a2), (3, .int a3), (4, .int a4)] [.int q3.1] 117 zRF q3.2
  refine zv_istore (i := 6) (lv' := [(6, .int q3.1), (5, .int b0), (0, .ref 0), (1, .int a1), (2, .int a2), (3, .int a3), (4, .int a4)]) X dX9_enterWeek_55 (Nat.le_of_ble_eq_true rfl) rfl ?_
  refine zv_iconst (v := (0 : Int32)) X dX9_enterWeek_57 zic_0 ?_
  refine zv_istore (i := 7) (lv' := [(7, .int (0 : Int32)), (6, .int q3.1), (5, .int b0), (0, .ref 0), (1, .int a1), (2, .int a2), (3, .int a3), (4, .int a4)]) X dX9_enterWeek_58 (Nat.le_of_ble_eq_true rfl) rfl ?_
  exact zv_pick X [3, 4, 6, 7, 1, 0] rfl (k_X9_enterWeek_L60 q hd X _ _ _ _ _ _ _ e)
set_option maxRecDepth 100000 in
set_option maxHeartbeats 4000000 in
theorem k_X9_enterWeek {l : Launch} {D : va_G} {cy : Nat → ClassId} {S0 d : Nat} (hd : 4 ≤ d) {a1 : Int32} {a2 : Int32} {h : zHp} {q : zHp} (e : s_X9_enterWeek a1 a2 h = some q) : zCT l D cy S0 d yX9_enterWeek cX9_enterWeek 8 none [.ref 0, .int a1, .int a2] 117 zRF h none 117 zRF q := by
  unfold s_X9_enterWeek at e
  refine zCT_of RX9 rfl zm_X9_enterWeek (Nat.le_refl _) (Nat.le_of_ble_eq_true rfl) (fun J X => ?_)
  show J 0 [(0, .ref 0), (1, .int a1), (2, .int a2)] [] 117 zRF h
  refine zv_aload_n X dX9_enterWeek_0 rfl rfl ?_
  refine zv_iload_n X dX9_enterWeek_1 rfl rfl ?_
  refine zb e (fun q1 gq1 e => ?_)
  refine zv_callV (stk := [.int a1, .ref 0]) (as := [.int a1]) (st := []) (k := 0) X zl_RX9_203 zm_X9_riskOf (k_X9_riskOf (d := d - 1) (by omega) gq1) (by omega) zb_0 (by rw [zk_0]; rfl) rfl rfl (Nat.le_of_ble_eq_true rfl) (Nat.le_refl _) rfl dX9_enterWeek_2 ?_
  show J 5 [(0, .ref 0), (1, .int a1), (2, .int a2)] [.int q1.1] 117 zRF q1.2
  refine zv_istore_n (i := 3) (lv' := [(3, .int q1.1), (0, .ref 0), (1, .int a1), (2, .int a2)]) X dX9_enterWeek_5 rfl (Nat.le_of_ble_eq_true rfl) rfl ?_
  refine zv_aload_n X dX9_enterWeek_6 rfl rfl ?_
  refine zv_iload_n X dX9_enterWeek_7 rfl rfl ?_
  refine zv_iload_n X dX9_enterWeek_8 rfl rfl ?_
  refine zb e (fun q2 gq2 e => ?_)
  refine zv_callV (stk := [.int q1.1, .int a1, .ref 0]) (as := [.int a1, .int q1.1]) (st := []) (k := 0) X zl_RX9_206 zm_X9_dueOf (k_X9_dueOf (d := d - 1) (by omega) gq2) (by omega) zb_0 (by rw [zk_0]; rfl) rfl rfl (Nat.le_of_ble_eq_true rfl) (Nat.le_refl _) rfl dX9_enterWeek_9 ?_
  show J 12 [(3, .int q1.1), (0, .ref 0), (1, .int a1), (2, .int a2)] [.int q2.1] 117 zRF q2.2
  refine zv_istore (i := 4) (lv' := [(4, .int q2.1), (3, .int q1.1), (0, .ref 0), (1, .int a1), (2, .int a2)]) X dX9_enterWeek_12 (Nat.le_of_ble_eq_true rfl) rfl ?_
  refine zv_aload_n X dX9_enterWeek_14 rfl rfl ?_
  refine zv_getR X zf_RX9_36 znt_o zk_0 zb_0 zr_0_6 dX9_enterWeek_15 ?_
  refine zv_iload_n X dX9_enterWeek_18 rfl rfl ?_
  refine zb e (fun q3 gq3 e => ?_)
  refine zv_callV (stk := [.int a1, .ref 13]) (as := [.int a1]) (st := []) (k := 13) X zl_RX9_147 zm_X4_isHard (k_X4_isHard (d := d - 1) (by omega) gq3) (by omega) zb_13 (by rw [zk_13]; rfl) rfl rfl (Nat.le_of_ble_eq_true rfl) (Nat.le_refl _) rfl dX9_enterWeek_19 ?_
  show J 22 [(4, .int q2.1), (3, .int q1.1), (0, .ref 0), (1, .int a1), (2, .int a2)] [.int q3.1] 117 zRF q3.2
  refine zv_if_eq (tgt := 29) X dX9_enterWeek_22 (by decide) (fun c4 => ?_) (fun c4 => ?_)
  · replace e := zit e c4
    refine zv_iconst (v := (1 : Int32)) X dX9_enterWeek_29 zic_1 ?_
    exact zv_pick X [2, 3, 4, 1, 0] rfl (k_X9_enterWeek_L30 q hd X _ _ _ _ _ _ e)
  · replace e := zif e c4
    refine zv_iconst (v := (2 : Int32)) X dX9_enterWeek_25 zic_2 ?_
    refine zv_goto (tgt := 30) X dX9_enterWeek_26 (by decide) ?_
    exact zv_pick X [2, 3, 4, 1, 0] rfl (k_X9_enterWeek_L30 q hd X _ _ _ _ _ _ e)
-- J6_bitCount_0f7a4
def s_J6_bitCount_0f7a4 (a0 : Int32) (h : zHp) : Option (Int32 × zHp) :=
  (some (a0 - (((a0.toUInt32 >>> ((1 : Int32).toUInt32 &&& Int32.toUInt32 31)).toInt32) &&& (1431655765 : Int32)))).bind fun v1 =>
  (some ((v1 &&& (858993459 : Int32)) + (((v1.toUInt32 >>> ((2 : Int32).toUInt32 &&& Int32.toUInt32 31)).toInt32) &&& (858993459 : Int32)))).bind fun v2 =>
  (some ((v2 + ((v2.toUInt32 >>> ((4 : Int32).toUInt32 &&& Int32.toUInt32 31)).toInt32)) &&& (252645135 : Int32))).bind fun v3 =>
  (some (v3 + ((v3.toUInt32 >>> ((8 : Int32).toUInt32 &&& Int32.toUInt32 31)).toInt32))).bind fun v4 =>
  (some (v4 + ((v4.toUInt32 >>> ((16 : Int32).toUInt32 &&& Int32.toUInt32 31)).toInt32))).bind fun v5 =>
  some (v5 &&& (63 : Int32), h)
set_option maxRecDepth 100000 in
set_option maxHeartbeats 4000000 in
theorem k_J6_bitCount_0f7a4 {l : Launch} {D : va_G} {cy : Nat → ClassId} {S0 d : Nat} (hd : 0 ≤ d) {a0 : Int32} {h : zHp} {q : (Int32 × zHp)} (e : s_J6_bitCount_0f7a4 a0 h = some q) : zCT l D cy S0 d yJ6_bitCount_0f7a4 cJ6_bitCount_0f7a4 1 (some .int) [.int a0] 117 zRF h (some (.int q.1)) 117 zRF q.2 := by
  unfold s_J6_bitCount_0f7a4 at e
  refine zCT_of RJ6 rfl zm_J6_bitCount_0f7a4 (Nat.le_refl _) (Nat.le_of_ble_eq_true rfl) (fun J X => ?_)
  show J 0 [(0, .int a0)] [] 117 zRF h
  refine zv_iload_n X dJ6_bitCount_0f7a4_0 rfl rfl ?_
  refine zv_iload_n X dJ6_bitCount_0f7a4_1 rfl rfl ?_
  refine zv_iconst (v := (1 : Int32)) X dJ6_bitCount_0f7a4_2 zic_1 ?_
  refine zv_iushr X dJ6_bitCount_0f7a4_3 ?_
  refine zv_ldcw (v := (1431655765 : Int32)) X zc_RJ6_265 dJ6_bitCount_0f7a4_4 ?_
  refine zv_iand X dJ6_bitCount_0f7a4_7 ?_
  refine zv_isub X dJ6_bitCount_0f7a4_8 ?_
  refine zb e (fun v1 gv1 e => ?_)
  refine zv_nmI X gv1 ?_
  refine zv_istore_n (i := 0) (lv' := [(0, .int v1)]) X dJ6_bitCount_0f7a4_9 rfl (Nat.le_of_ble_eq_true rfl) rfl ?_
  refine zv_iload_n X dJ6_bitCount_0f7a4_10 rfl rfl ?_
  refine zv_ldcw (v := (858993459 : Int32)) X zc_RJ6_266 dJ6_bitCount_0f7a4_11 ?_
  refine zv_iand X dJ6_bitCount_0f7a4_14 ?_
  refine zv_iload_n X dJ6_bitCount_0f7a4_15 rfl rfl ?_
  refine zv_iconst (v := (2 : Int32)) X dJ6_bitCount_0f7a4_16 zic_2 ?_
  refine zv_iushr X dJ6_bitCount_0f7a4_17 ?_
  refine zv_ldcw (v := (858993459 : Int32)) X zc_RJ6_266 dJ6_bitCount_0f7a4_18 ?_
  refine zv_iand X dJ6_bitCount_0f7a4_21 ?_
  refine zv_iadd X dJ6_bitCount_0f7a4_22 ?_
  refine zb e (fun v2 gv2 e => ?_)
  refine zv_nmI X gv2 ?_
  refine zv_istore_n (i := 0) (lv' := [(0, .int v2)]) X dJ6_bitCount_0f7a4_23 rfl (Nat.le_of_ble_eq_true rfl) rfl ?_
  refine zv_iload_n X dJ6_bitCount_0f7a4_24 rfl rfl ?_
  refine zv_iload_n X dJ6_bitCount_0f7a4_25 rfl rfl ?_
  refine zv_iconst (v := (4 : Int32)) X dJ6_bitCount_0f7a4_26 zic_4 ?_
  refine zv_iushr X dJ6_bitCount_0f7a4_27 ?_
  refine zv_iadd X dJ6_bitCount_0f7a4_28 ?_
  refine zv_ldcw (v := (252645135 : Int32)) X zc_RJ6_267 dJ6_bitCount_0f7a4_29 ?_
  refine zv_iand X dJ6_bitCount_0f7a4_32 ?_
  refine zb e (fun v3 gv3 e => ?_)
  refine zv_nmI X gv3 ?_
  refine zv_istore_n (i := 0) (lv' := [(0, .int v3)]) X dJ6_bitCount_0f7a4_33 rfl (Nat.le_of_ble_eq_true rfl) rfl ?_
  refine zv_iload_n X dJ6_bitCount_0f7a4_34 rfl rfl ?_
  refine zv_iload_n X dJ6_bitCount_0f7a4_35 rfl rfl ?_
  refine zv_bipush (v := (8 : Int32)) X dJ6_bitCount_0f7a4_36 zbp_8 ?_
  refine zv_iushr X dJ6_bitCount_0f7a4_38 ?_
  refine zv_iadd X dJ6_bitCount_0f7a4_39 ?_
  refine zb e (fun v4 gv4 e => ?_)
  refine zv_nmI X gv4 ?_
  refine zv_istore_n (i := 0) (lv' := [(0, .int v4)]) X dJ6_bitCount_0f7a4_40 rfl (Nat.le_of_ble_eq_true rfl) rfl ?_
  refine zv_iload_n X dJ6_bitCount_0f7a4_41 rfl rfl ?_
  refine zv_iload_n X dJ6_bitCount_0f7a4_42 rfl rfl ?_
  refine zv_bipush (v := (16 : Int32)) X dJ6_bitCount_0f7a4_43 zbp_16 ?_
  refine zv_iushr X dJ6_bitCount_0f7a4_45 ?_
  refine zv_iadd X dJ6_bitCount_0f7a4_46 ?_
  refine zb e (fun v5 gv5 e => ?_)
  refine zv_nmI X gv5 ?_
  refine zv_istore_n (i := 0) (lv' := [(0, .int v5)]) X dJ6_bitCount_0f7a4_47 rfl (Nat.le_of_ble_eq_true rfl) rfl ?_
  refine zv_iload_n X dJ6_bitCount_0f7a4_48 rfl rfl ?_
  refine zv_bipush (v := (63 : Int32)) X dJ6_bitCount_0f7a4_49 zbp_63 ?_
  refine zv_iand X dJ6_bitCount_0f7a4_51 ?_
  exact zv_retI X e rfl dJ6_bitCount_0f7a4_52
-- X8_fillBound
def s_X8_fillBound_L70 (k2 : Int32 → zHp → Option zHp) (k24 : Int32 → Int32 → Int32 → zHp → Option zHp) : Nat → Int32 → Int32 → Int32 → Int32 → Int32 → Int32 → zHp → Option zHp
  | 0, _, _, _, _, _, _, _ => none
  | f + 1, a1, a2, a3, a5, a6, a7, h =>
  if a6 ≤ a7 then
    k24 a1 a2 (a3 + (1 : Int32)) h
  else
    (zri h 43 512 (a2 + a7)).bind fun v2 =>
    (zui h 43 512 ((a2 + a6) + a7) (v2 + a5)).bind fun h3 =>
    s_X8_fillBound_L70 k2 k24 f a1 a2 a3 a5 a6 (a7 + (1 : Int32)) h3
def s_X8_fillBound_L24 (k2 : Int32 → zHp → Option zHp) : Nat → Int32 → Int32 → Int32 → zHp → Option zHp
  | 0, _, _, _, _ => none
  | f + 1, a1, a2, a3, h =>
  if (h.1 35 10) ≤ a3 then
    k2 (a1 + (1 : Int32)) h
  else
    (zri h 38 6 a3).bind fun v2 =>
    (s_J6_bitCount_0f7a4 (v2 &&& (a1 ^^^ (-1 : Int32))) h).bind fun q3 =>
    (zri q3.2 37 6 a3).bind fun v4 =>
    (s_J9_max_7cf53 (0 : Int32) (v4 - q3.1) q3.2).bind fun q5 =>
    (some ((1 : Int32) <<< (a3 &&& 31))).bind fun v6 =>
    s_X8_fillBound_L70 k2 (s_X8_fillBound_L24 k2 f) zFU a1 a2 a3 q5.1 v6 (0 : Int32) q5.2
def s_X8_fillBound_L2 : Nat → Int32 → zHp → Option zHp
  | 0, _, _ => none
  | f + 1, a1, h =>
  if (h.1 35 11) ≤ a1 then
    some h
  else
    (some (a1 * (64 : Int32))).bind fun v2 =>
    (zui h 43 512 v2 (0 : Int32)).bind fun h3 =>
    s_X8_fillBound_L24 (s_X8_fillBound_L2 f) zFU a1 v2 (0 : Int32) h3
def s_X8_fillBound  (h : zHp) : Option zHp :=
  s_X8_fillBound_L2 zFU (0 : Int32) h
set_option maxRecDepth 100000 in
set_option maxHeartbeats 4000000 in
theorem k_X8_fillBound_L70 {l : Launch} {D : va_G} {cy : Nat → ClassId} {S0 d : Nat} {J : zJ} (q : zHp) (hd : 1 ≤ d) (X : zOK l D cy S0 d RX8 cX8_fillBound 8 (yX8_fillBound.name == "<init>") 117 117 none (zRT 117 zRF none q) J) {k2 : Int32 → zHp → Option zHp} (hk2 : ∀ (a1 : Int32) (h : zHp), k2 a1 h = some q → J 2 [(0, .ref 35), (1, .int a1)] [] 117 zRF h) {k24 : Int32 → Int32 → Int32 → zHp → Option zHp} (hk24 : ∀ (a1 : Int32) (a2 : Int32) (a3 : Int32) (h : zHp), k24 a1 a2 a3 h = some q → J 24 [(0, .ref 35), (1, .int a1), (2, .int a2), (3, .int a3)] [] 117 zRF h) : ∀ (f : Nat) (a1 : Int32) (a2 : Int32) (a3 : Int32) (a5 : Int32) (a6 : Int32) (a7 : Int32) (h : zHp), s_X8_fillBound_L70 k2 k24 f a1 a2 a3 a5 a6 a7 h = some q → J 70 [(0, .ref 35), (1, .int a1), (2, .int a2), (3, .int a3), (5, .int a5), (6, .int a6), (7, .int a7)] [] 117 zRF h := by
  intro f
  induction f with
  | zero => intro _ _ _ _ _ _ h e; exact absurd e (fun z => by cases z)
  | succ f ih =>
    intro a1 a2 a3 a5 a6 a7 h e
    rw [s_X8_fillBound_L70] at e
    refine zv_iload X dX8_fillBound_70 rfl ?_
    refine zv_iload X dX8_fillBound_72 rfl ?_
    refine zv_icmp_ge (tgt := 107) X dX8_fillBound_74 (by decide) (fun c1 => ?_) (fun c1 => ?_)
    · replace e := zit e c1
      refine zv_iinc (k := 3) (v := a3 + (1 : Int32)) (lv' := [(3, .int (a3 + (1 : Int32))), (0, .ref 35), (1, .int a1), (2, .int a2), (5, .int a5), (6, .int a6), (7, .int a7)]) X dX8_fillBound_107 rfl rfl (Nat.le_of_ble_eq_true rfl) rfl ?_
      refine zv_goto (tgt := 24) X dX8_fillBound_110 (by decide) ?_
      exact zv_pick X [1, 2, 3, 0] rfl (hk24 _ _ _ _ e)
    · replace e := zif e c1
      refine zv_aload_n X dX8_fillBound_77 rfl rfl ?_
      refine zv_getR X zf_RX8_33 znt_a zk_35 zb_35 zr_35_7 dX8_fillBound_78 ?_
      refine zv_iload_n X dX8_fillBound_81 rfl rfl ?_
      refine zv_iload X dX8_fillBound_82 rfl ?_
      refine zv_iadd X dX8_fillBound_84 ?_
      refine zv_iload X dX8_fillBound_85 rfl ?_
      refine zv_iadd X dX8_fillBound_87 ?_
      refine zv_aload_n X dX8_fillBound_88 rfl rfl ?_
      refine zv_getR X zf_RX8_33 znt_a zk_35 zb_35 zr_35_7 dX8_fillBound_89 ?_
      refine zv_iload_n X dX8_fillBound_92 rfl rfl ?_
      refine zv_iload X dX8_fillBound_93 rfl ?_
      refine zv_iadd X dX8_fillBound_95 ?_
      refine zb e (fun v2 gv2 e => ?_)
      refine zv_iald X zk_43 zl_43 zb_43 dX8_fillBound_96 gv2 ?_
      refine zv_iload X dX8_fillBound_97 rfl ?_
      refine zv_iadd X dX8_fillBound_99 ?_
      refine zb e (fun h3 gh3 e => ?_)
      refine zv_iast X zk_43 zl_43 zb_43 dX8_fillBound_100 gh3 ?_
      refine zv_iinc (k := 6) (v := a7 + (1 : Int32)) (lv' := [(7, .int (a7 + (1 : Int32))), (0, .ref 35), (1, .int a1), (2, .int a2), (3, .int a3), (5, .int a5), (6, .int a6)]) X dX8_fillBound_101 rfl rfl (Nat.le_of_ble_eq_true rfl) rfl ?_
      refine zv_goto (tgt := 70) X dX8_fillBound_104 (by decide) ?_
      exact zv_pick X [1, 2, 3, 4, 5, 6, 0] rfl (ih _ _ _ _ _ _ _ e)
set_option maxRecDepth 100000 in
set_option maxHeartbeats 4000000 in
theorem k_X8_fillBound_L24 {l : Launch} {D : va_G} {cy : Nat → ClassId} {S0 d : Nat} {J : zJ} (q : zHp) (hd : 1 ≤ d) (X : zOK l D cy S0 d RX8 cX8_fillBound 8 (yX8_fillBound.name == "<init>") 117 117 none (zRT 117 zRF none q) J) {k2 : Int32 → zHp → Option zHp} (hk2 : ∀ (a1 : Int32) (h : zHp), k2 a1 h = some q → J 2 [(0, .ref 35), (1, .int a1)] [] 117 zRF h) : ∀ (f : Nat) (a1 : Int32) (a2 : Int32) (a3 : Int32) (h : zHp), s_X8_fillBound_L24 k2 f a1 a2 a3 h = some q → J 24 [(0, .ref 35), (1, .int a1), (2, .int a2), (3, .int a3)] [] 117 zRF h := by
  intro f
  induction f with
  | zero => intro _ _ _ h e; exact absurd e (fun z => by cases z)
  | succ f ih =>
    intro a1 a2 a3 h e
    rw [s_X8_fillBound_L24] at e
    refine zv_iload_n X dX8_fillBound_24 rfl rfl ?_
    refine zv_aload_n X dX8_fillBound_25 rfl rfl ?_
    refine zv_getI X zf_RX8_42 zk_35 zb_35 dX8_fillBound_26 ?_
    refine zv_icmp_ge (tgt := 113) X dX8_fillBound_29 (by decide) (fun c1 => ?_) (fun c1 => ?_)
    · replace e := zit e c1
      refine zv_iinc (k := 1) (v := a1 + (1 : Int32)) (lv' := [(1, .int (a1 + (1 : Int32))), (0, .ref 35), (2, .int a2), (3, .int a3)]) X dX8_fillBound_113 rfl rfl (Nat.le_of_ble_eq_true rfl) rfl ?_
      refine zv_goto (tgt := 2) X dX8_fillBound_116 (by decide) ?_
      exact zv_pick X [1, 0] rfl (hk2 _ _ e)
    · replace e := zif e c1
      refine zv_aload_n X dX8_fillBound_32 rfl rfl ?_
      refine zv_getR X zf_RX8_18 znt_a zk_35 zb_35 zr_35_2 dX8_fillBound_33 ?_
      refine zv_iload_n X dX8_fillBound_36 rfl rfl ?_
      refine zb e (fun v2 gv2 e => ?_)
      refine zv_iald X zk_38 zl_38 zb_38 dX8_fillBound_37 gv2 ?_
      refine zv_iload_n X dX8_fillBound_38 rfl rfl ?_
      refine zv_iconst (v := (-1 : Int32)) X dX8_fillBound_39 zic_m1 ?_
      refine zv_ixor X dX8_fillBound_40 ?_
      refine zv_iand X dX8_fillBound_41 ?_
      refine zb e (fun q3 gq3 e => ?_)
      refine zv_callS (stk := [.int (v2 &&& (a1 ^^^ (-1 : Int32)))]) (as := [.int (v2 &&& (a1 ^^^ (-1 : Int32)))]) (st := []) X zl_RX8_89 zm_J6_bitCount_0f7a4 (k_J6_bitCount_0f7a4 (d := d - 1) (by omega) gq3) (by omega) rfl (Nat.le_of_ble_eq_true rfl) (Nat.le_refl _) rfl dX8_fillBound_42 ?_
      show J 45 [(0, .ref 35), (1, .int a1), (2, .int a2), (3, .int a3)] [.int q3.1] 117 zRF q3.2
      refine zv_istore (i := 4) (lv' := [(4, .int q3.1), (0, .ref 35), (1, .int a1), (2, .int a2), (3, .int a3)]) X dX8_fillBound_45 (Nat.le_of_ble_eq_true rfl) rfl ?_
      refine zv_iconst (v := (0 : Int32)) X dX8_fillBound_47 zic_0 ?_
      refine zv_aload_n X dX8_fillBound_48 rfl rfl ?_
      refine zv_getR X zf_RX8_15 znt_a zk_35 zb_35 zr_35_1 dX8_fillBound_49 ?_
      refine zv_iload_n X dX8_fillBound_52 rfl rfl ?_
      refine zb e (fun v4 gv4 e => ?_)
      refine zv_iald X zk_37 zl_37 zb_37 dX8_fillBound_53 gv4 ?_
      refine zv_iload X dX8_fillBound_54 rfl ?_
      refine zv_isub X dX8_fillBound_56 ?_
      refine zb e (fun q5 gq5 e => ?_)
      refine zv_callS (stk := [.int (v4 - q3.1), .int (0 : Int32)]) (as := [.int (0 : Int32), .int (v4 - q3.1)]) (st := []) X zl_RX8_55 zm_J9_max_7cf53 (k_J9_max_7cf53 (d := d - 1) (by omega) gq5) (by omega) rfl (Nat.le_of_ble_eq_true rfl) (Nat.le_refl _) rfl dX8_fillBound_57 ?_
      show J 60 [(4, .int q3.1), (0, .ref 35), (1, .int a1), (2, .int a2), (3, .int a3)] [.int q5.1] 117 zRF q5.2
      refine zv_istore (i := 5) (lv' := [(5, .int q5.1), (4, .int q3.1), (0, .ref 35), (1, .int a1), (2, .int a2), (3, .int a3)]) X dX8_fillBound_60 (Nat.le_of_ble_eq_true rfl) rfl ?_
      refine zv_iconst (v := (1 : Int32)) X dX8_fillBound_62 zic_1 ?_
      refine zv_iload_n X dX8_fillBound_63 rfl rfl ?_
      refine zv_ishl X dX8_fillBound_64 ?_
      refine zb e (fun v6 gv6 e => ?_)
      refine zv_nmI X gv6 ?_
      refine zv_istore (i := 6) (lv' := [(6, .int v6), (5, .int q5.1), (4, .int q3.1), (0, .ref 35), (1, .int a1), (2, .int a2), (3, .int a3)]) X dX8_fillBound_65 (Nat.le_of_ble_eq_true rfl) rfl ?_
      refine zv_iconst (v := (0 : Int32)) X dX8_fillBound_67 zic_0 ?_
      refine zv_istore (i := 7) (lv' := [(7, .int (0 : Int32)), (6, .int v6), (5, .int q5.1), (4, .int q3.1), (0, .ref 35), (1, .int a1), (2, .int a2), (3, .int a3)]) X dX8_fillBound_68 (Nat.le_of_ble_eq_true rfl) rfl ?_
      exact zv_pick X [4, 5, 6, 7, 2, 1, 0] rfl (k_X8_fillBound_L70 q hd X hk2 ih _ _ _ _ _ _ _ _ e)
set_option maxRecDepth 100000 in
set_option maxHeartbeats 4000000 in
theorem k_X8_fillBound_L2 {l : Launch} {D : va_G} {cy : Nat → ClassId} {S0 d : Nat} {J : zJ} (q : zHp) (hd : 1 ≤ d) (X : zOK l D cy S0 d RX8 cX8_fillBound 8 (yX8_fillBound.name == "<init>") 117 117 none (zRT 117 zRF none q) J) : ∀ (f : Nat) (a1 : Int32) (h : zHp), s_X8_fillBound_L2 f a1 h = some q → J 2 [(0, .ref 35), (1, .int a1)] [] 117 zRF h := by
  intro f
  induction f with
  | zero => intro _ h e; exact absurd e (fun z => by cases z)
  | succ f ih =>
    intro a1 h e
    rw [s_X8_fillBound_L2] at e
    refine zv_iload_n X dX8_fillBound_2 rfl rfl ?_
    refine zv_aload_n X dX8_fillBound_3 rfl rfl ?_
    refine zv_getI X zf_RX8_46 zk_35 zb_35 dX8_fillBound_4 ?_
    refine zv_icmp_ge (tgt := 119) X dX8_fillBound_7 (by decide) (fun c1 => ?_) (fun c1 => ?_)
    · replace e := zit e c1
      exact zv_retV X e rfl dX8_fillBound_119
    · replace e := zif e c1
      refine zv_iload_n X dX8_fillBound_10 rfl rfl ?_
      refine zv_bipush (v := (64 : Int32)) X dX8_fillBound_11 zbp_64 ?_
      refine zv_imul X dX8_fillBound_13 ?_
      refine zb e (fun v2 gv2 e => ?_)
      refine zv_nmI X gv2 ?_
      refine zv_istore_n (i := 2) (lv' := [(2, .int v2), (0, .ref 35), (1, .int a1)]) X dX8_fillBound_14 rfl (Nat.le_of_ble_eq_true rfl) rfl ?_
      refine zv_aload_n X dX8_fillBound_15 rfl rfl ?_
      refine zv_getR X zf_RX8_33 znt_a zk_35 zb_35 zr_35_7 dX8_fillBound_16 ?_
      refine zv_iload_n X dX8_fillBound_19 rfl rfl ?_
      refine zv_iconst (v := (0 : Int32)) X dX8_fillBound_20 zic_0 ?_
      refine zb e (fun h3 gh3 e => ?_)
      refine zv_iast X zk_43 zl_43 zb_43 dX8_fillBound_21 gh3 ?_
      refine zv_iconst (v := (0 : Int32)) X dX8_fillBound_22 zic_0 ?_
      refine zv_istore_n (i := 3) (lv' := [(3, .int (0 : Int32)), (2, .int v2), (0, .ref 35), (1, .int a1)]) X dX8_fillBound_23 rfl (Nat.le_of_ble_eq_true rfl) rfl ?_
      exact zv_pick X [2, 3, 1, 0] rfl (k_X8_fillBound_L24 q hd X ih _ _ _ _ _ e)
set_option maxRecDepth 100000 in
set_option maxHeartbeats 4000000 in
theorem k_X8_fillBound {l : Launch} {D : va_G} {cy : Nat → ClassId} {S0 d : Nat} (hd : 1 ≤ d) {h : zHp} {q : zHp} (e : s_X8_fillBound  h = some q) : zCT l D cy S0 d yX8_fillBound cX8_fillBound 8 none [.ref 35] 117 zRF h none 117 zRF q := by
  unfold s_X8_fillBound at e
  refine zCT_of RX8 rfl zm_X8_fillBound (Nat.le_refl _) (Nat.le_of_ble_eq_true rfl) (fun J X => ?_)
  show J 0 [(0, .ref 35)] [] 117 zRF h
  refine zv_iconst (v := (0 : Int32)) X dX8_fillBound_0 zic_0 ?_
  refine zv_istore_n (i := 1) (lv' := [(1, .int (0 : Int32)), (0, .ref 35)]) X dX8_fillBound_1 rfl (Nat.le_of_ble_eq_true rfl) rfl ?_
  exact zv_pick X [1, 0] rfl (k_X8_fillBound_L2 q hd X _ _ _ e)
-- X8_priceOf
def s_X8_priceOf (a1 : Int32) (a2 : Int32) (h : zHp) : Option (Int32 × zHp) :=
  (zri h 39 36 ((a1 * (6 : Int32)) + a2)).bind fun v1 =>
  some (v1, h)
set_option maxRecDepth 100000 in
set_option maxHeartbeats 4000000 in
theorem k_X8_priceOf {l : Launch} {D : va_G} {cy : Nat → ClassId} {S0 d : Nat} (hd : 0 ≤ d) {a1 : Int32} {a2 : Int32} {h : zHp} {q : (Int32 × zHp)} (e : s_X8_priceOf a1 a2 h = some q) : zCT l D cy S0 d yX8_priceOf cX8_priceOf 3 (some .int) [.ref 35, .int a1, .int a2] 117 zRF h (some (.int q.1)) 117 zRF q.2 := by
  unfold s_X8_priceOf at e
  refine zCT_of RX8 rfl zm_X8_priceOf (Nat.le_refl _) (Nat.le_of_ble_eq_true rfl) (fun J X => ?_)
  show J 0 [(0, .ref 35), (1, .int a1), (2, .int a2)] [] 117 zRF h
  refine zv_aload_n X dX8_priceOf_0 rfl rfl ?_
  refine zv_getR X zf_RX8_21 znt_a zk_35 zb_35 zr_35_3 dX8_priceOf_1 ?_
  refine zv_iload_n X dX8_priceOf_4 rfl rfl ?_
  refine zv_bipush (v := (6 : Int32)) X dX8_priceOf_5 zbp_6 ?_
  refine zv_imul X dX8_priceOf_7 ?_
  refine zv_iload_n X dX8_priceOf_8 rfl rfl ?_
  refine zv_iadd X dX8_priceOf_9 ?_
  refine zb e (fun v1 gv1 e => ?_)
  refine zv_iald X zk_39 zl_39 zb_39 dX8_priceOf_10 gv1 ?_
  exact zv_retI X e rfl dX8_priceOf_11
-- X8_fillSums_45
def s_X8_fillSums_45_L34 (k7 : Int32 → Int32 → Int32 → zHp → Option zHp) : Nat → Int32 → Int32 → Int32 → Int32 → Int32 → Int32 → zHp → Option zHp
  | 0, _, _, _, _, _, _, _ => none
  | f + 1, a2, a3, a4, a5, a6, a7, h =>
  if a5 ≤ a7 then
    k7 a2 a3 (a4 + (1 : Int32)) h
  else
    (zri h 45 64 a7).bind fun v2 =>
    (zui h 45 64 (a5 + a7) (v2 + a6)).bind fun h3 =>
    (some (a7 + ((1 : Int32) <<< (a2 &&& 31)))).bind fun v4 =>
    s_X8_fillSums_45_L34 k7 f a2 a3 a4 a5 a6 v4 h3
def s_X8_fillSums_45_L7 : Nat → Int32 → Int32 → Int32 → zHp → Option zHp
  | 0, _, _, _, _ => none
  | f + 1, a2, a3, a4, h =>
  if (h.1 35 10) ≤ a4 then
    some h
  else
    (some ((1 : Int32) <<< (a4 &&& 31))).bind fun v2 =>
    (s_X8_priceOf a4 a3 h).bind fun q3 =>
    s_X8_fillSums_45_L34 (s_X8_fillSums_45_L7 f) zFU a2 a3 a4 v2 q3.1 (0 : Int32) q3.2
def s_X8_fillSums_45 (a2 : Int32) (a3 : Int32) (h : zHp) : Option zHp :=
  (zui h 45 64 (0 : Int32) (0 : Int32)).bind fun h1 =>
  s_X8_fillSums_45_L7 zFU a2 a3 a2 h1
set_option maxRecDepth 100000 in
set_option maxHeartbeats 4000000 in
theorem k_X8_fillSums_45_L34 {l : Launch} {D : va_G} {cy : Nat → ClassId} {S0 d : Nat} {J : zJ} (q : zHp) (hd : 1 ≤ d) (X : zOK l D cy S0 d RX8 cX8_fillSums 8 (yX8_fillSums.name == "<init>") 117 117 none (zRT 117 zRF none q) J) {k7 : Int32 → Int32 → Int32 → zHp → Option zHp} (hk7 : ∀ (a2 : Int32) (a3 : Int32) (a4 : Int32) (h : zHp), k7 a2 a3 a4 h = some q → J 7 [(0, .ref 35), (1, .ref 45), (2, .int a2), (3, .int a3), (4, .int a4)] [] 117 zRF h) : ∀ (f : Nat) (a2 : Int32) (a3 : Int32) (a4 : Int32) (a5 : Int32) (a6 : Int32) (a7 : Int32) (h : zHp), s_X8_fillSums_45_L34 k7 f a2 a3 a4 a5 a6 a7 h = some q → J 34 [(0, .ref 35), (1, .ref 45), (2, .int a2), (3, .int a3), (4, .int a4), (5, .int a5), (6, .int a6), (7, .int a7)] [] 117 zRF h := by
  intro f
  induction f with
  | zero => intro _ _ _ _ _ _ h e; exact absurd e (fun z => by cases z)
  | succ f ih =>
    intro a2 a3 a4 a5 a6 a7 h e
    rw [s_X8_fillSums_45_L34] at e
    refine zv_iload X dX8_fillSums_34 rfl ?_
    refine zv_iload X dX8_fillSums_36 rfl ?_
    refine zv_icmp_ge (tgt := 66) X dX8_fillSums_38 (by decide) (fun c1 => ?_) (fun c1 => ?_)
    · replace e := zit e c1
      refine zv_iinc (k := 4) (v := a4 + (1 : Int32)) (lv' := [(4, .int (a4 + (1 : Int32))), (0, .ref 35), (1, .ref 45), (2, .int a2), (3, .int a3), (5, .int a5), (6, .int a6), (7, .int a7)]) X dX8_fillSums_66 rfl rfl (Nat.le_of_ble_eq_true rfl) rfl ?_
      refine zv_goto (tgt := 7) X dX8_fillSums_69 (by decide) ?_
      exact zv_pick X [1, 2, 3, 4, 0] rfl (hk7 _ _ _ _ e)
    · replace e := zif e c1
      refine zv_aload_n X dX8_fillSums_41 rfl rfl ?_
      refine zv_iload X dX8_fillSums_42 rfl ?_
      refine zv_iload X dX8_fillSums_44 rfl ?_
      refine zv_iadd X dX8_fillSums_46 ?_
      refine zv_aload_n X dX8_fillSums_47 rfl rfl ?_
      refine zv_iload X dX8_fillSums_48 rfl ?_
      refine zb e (fun v2 gv2 e => ?_)
      refine zv_iald X zk_45 zl_45 zb_45 dX8_fillSums_50 gv2 ?_
      refine zv_iload X dX8_fillSums_51 rfl ?_
      refine zv_iadd X dX8_fillSums_53 ?_
      refine zb e (fun h3 gh3 e => ?_)
      refine zv_iast X zk_45 zl_45 zb_45 dX8_fillSums_54 gh3 ?_
      refine zv_iload X dX8_fillSums_55 rfl ?_
      refine zv_iconst (v := (1 : Int32)) X dX8_fillSums_57 zic_1 ?_
      refine zv_iload_n X dX8_fillSums_58 rfl rfl ?_
      refine zv_ishl X dX8_fillSums_59 ?_
      refine zv_iadd X dX8_fillSums_60 ?_
      refine zb e (fun v4 gv4 e => ?_)
      refine zv_nmI X gv4 ?_
      refine zv_istore (i := 7) (lv' := [(7, .int v4), (0, .ref 35), (1, .ref 45), (2, .int a2), (3, .int a3), (4, .int a4), (5, .int a5), (6, .int a6)]) X dX8_fillSums_61 (Nat.le_of_ble_eq_true rfl) rfl ?_
      refine zv_goto (tgt := 34) X dX8_fillSums_63 (by decide) ?_
      exact zv_pick X [1, 2, 3, 4, 5, 6, 7, 0] rfl (ih _ _ _ _ _ _ _ e)
set_option maxRecDepth 100000 in
set_option maxHeartbeats 4000000 in
theorem k_X8_fillSums_45_L7 {l : Launch} {D : va_G} {cy : Nat → ClassId} {S0 d : Nat} {J : zJ} (q : zHp) (hd : 1 ≤ d) (X : zOK l D cy S0 d RX8 cX8_fillSums 8 (yX8_fillSums.name == "<init>") 117 117 none (zRT 117 zRF none q) J) : ∀ (f : Nat) (a2 : Int32) (a3 : Int32) (a4 : Int32) (h : zHp), s_X8_fillSums_45_L7 f a2 a3 a4 h = some q → J 7 [(0, .ref 35), (1, .ref 45), (2, .int a2), (3, .int a3), (4, .int a4)] [] 117 zRF h := by
  intro f
  induction f with
  | zero => intro _ _ _ h e; exact absurd e (fun z => by cases z)
  | succ f ih =>
    intro a2 a3 a4 h e
    rw [s_X8_fillSums_45_L7] at e
    refine zv_iload X dX8_fillSums_7 rfl ?_
    refine zv_aload_n X dX8_fillSums_9 rfl rfl ?_
    refine zv_getI X zf_RX8_42 zk_35 zb_35 dX8_fillSums_10 ?_
    refine zv_icmp_ge (tgt := 72) X dX8_fillSums_13 (by decide) (fun c1 => ?_) (fun c1 => ?_)
    · replace e := zit e c1
      exact zv_retV X e rfl dX8_fillSums_72
    · replace e := zif e c1
      refine zv_iconst (v := (1 : Int32)) X dX8_fillSums_16 zic_1 ?_
      refine zv_iload X dX8_fillSums_17 rfl ?_
      refine zv_ishl X dX8_fillSums_19 ?_
      refine zb e (fun v2 gv2 e => ?_)
      refine zv_nmI X gv2 ?_
      refine zv_istore (i := 5) (lv' := [(5, .int v2), (0, .ref 35), (1, .ref 45), (2, .int a2), (3, .int a3), (4, .int a4)]) X dX8_fillSums_20 (Nat.le_of_ble_eq_true rfl) rfl ?_
      refine zv_aload_n X dX8_fillSums_22 rfl rfl ?_
      refine zv_iload X dX8_fillSums_23 rfl ?_
      refine zv_iload_n X dX8_fillSums_25 rfl rfl ?_
      refine zb e (fun q3 gq3 e => ?_)
      refine zv_callV (stk := [.int a3, .int a4, .ref 35]) (as := [.int a4, .int a3]) (st := []) (k := 35) X zl_RX8_74 zm_X8_priceOf (k_X8_priceOf (d := d - 1) (by omega) gq3) (by omega) zb_35 (by rw [zk_35]; rfl) rfl rfl (Nat.le_of_ble_eq_true rfl) (Nat.le_refl _) rfl dX8_fillSums_26 ?_
      show J 29 [(5, .int v2), (0, .ref 35), (1, .ref 45), (2, .int a2), (3, .int a3), (4, .int a4)] [.int q3.1] 117 zRF q3.2
      refine zv_istore (i := 6) (lv' := [(6, .int q3.1), (5, .int v2), (0, .ref 35), (1, .ref 45), (2, .int a2), (3, .int a3), (4, .int a4)]) X dX8_fillSums_29 (Nat.le_of_ble_eq_true rfl) rfl ?_
      refine zv_iconst (v := (0 : Int32)) X dX8_fillSums_31 zic_0 ?_
      refine zv_istore (i := 7) (lv' := [(7, .int (0 : Int32)), (6, .int q3.1), (5, .int v2), (0, .ref 35), (1, .ref 45), (2, .int a2), (3, .int a3), (4, .int a4)]) X dX8_fillSums_32 (Nat.le_of_ble_eq_true rfl) rfl ?_
      exact zv_pick X [3, 4, 5, 6, 7, 2, 1, 0] rfl (k_X8_fillSums_45_L34 q hd X ih _ _ _ _ _ _ _ _ e)
set_option maxRecDepth 100000 in
set_option maxHeartbeats 4000000 in
theorem k_X8_fillSums_45 {l : Launch} {D : va_G} {cy : Nat → ClassId} {S0 d : Nat} (hd : 1 ≤ d) {a2 : Int32} {a3 : Int32} {h : zHp} {q : zHp} (e : s_X8_fillSums_45 a2 a3 h = some q) : zCT l D cy S0 d yX8_fillSums cX8_fillSums 8 none [.ref 35, .ref 45, .int a2, .int a3] 117 zRF h none 117 zRF q := by
  unfold s_X8_fillSums_45 at e
  refine zCT_of RX8 rfl zm_X8_fillSums (Nat.le_refl _) (Nat.le_of_ble_eq_true rfl) (fun J X => ?_)
  show J 0 [(0, .ref 35), (1, .ref 45), (2, .int a2), (3, .int a3)] [] 117 zRF h
  refine zv_aload_n X dX8_fillSums_0 rfl rfl ?_
  refine zv_iconst (v := (0 : Int32)) X dX8_fillSums_1 zic_0 ?_
  refine zv_iconst (v := (0 : Int32)) X dX8_fillSums_2 zic_0 ?_
  refine zb e (fun h1 gh1 e => ?_)
  refine zv_iast X zk_45 zl_45 zb_45 dX8_fillSums_3 gh1 ?_
  refine zv_iload_n X dX8_fillSums_4 rfl rfl ?_
  refine zv_istore (i := 4) (lv' := [(4, .int a2), (0, .ref 35), (1, .ref 45), (2, .int a2), (3, .int a3)]) X dX8_fillSums_5 (Nat.le_of_ble_eq_true rfl) rfl ?_
  exact zv_pick X [1, 2, 3, 4, 0] rfl (k_X8_fillSums_45_L7 q hd X _ _ _ _ _ e)
-- X8_fillSums_44
def s_X8_fillSums_44_L34 (k7 : Int32 → Int32 → Int32 → zHp → Option zHp) : Nat → Int32 → Int32 → Int32 → Int32 → Int32 → Int32 → zHp → Option zHp
  | 0, _, _, _, _, _, _, _ => none
  | f + 1, a2, a3, a4, a5, a6, a7, h =>
  if a5 ≤ a7 then
    k7 a2 a3 (a4 + (1 : Int32)) h
  else
    (zri h 44 64 a7).bind fun v2 =>
    (zui h 44 64 (a5 + a7) (v2 + a6)).bind fun h3 =>
    (some (a7 + ((1 : Int32) <<< (a2 &&& 31)))).bind fun v4 =>
    s_X8_fillSums_44_L34 k7 f a2 a3 a4 a5 a6 v4 h3
def s_X8_fillSums_44_L7 : Nat → Int32 → Int32 → Int32 → zHp → Option zHp
  | 0, _, _, _, _ => none
  | f + 1, a2, a3, a4, h =>
  if (h.1 35 10) ≤ a4 then
    some h
  else
    (some ((1 : Int32) <<< (a4 &&& 31))).bind fun v2 =>
    (s_X8_priceOf a4 a3 h).bind fun q3 =>
    s_X8_fillSums_44_L34 (s_X8_fillSums_44_L7 f) zFU a2 a3 a4 v2 q3.1 (0 : Int32) q3.2
def s_X8_fillSums_44 (a2 : Int32) (a3 : Int32) (h : zHp) : Option zHp :=
  (zui h 44 64 (0 : Int32) (0 : Int32)).bind fun h1 =>
  s_X8_fillSums_44_L7 zFU a2 a3 a2 h1
set_option maxRecDepth 100000 in
set_option maxHeartbeats 4000000 in
theorem k_X8_fillSums_44_L34 {l : Launch} {D : va_G} {cy : Nat → ClassId} {S0 d : Nat} {J : zJ} (q : zHp) (hd : 1 ≤ d) (X : zOK l D cy S0 d RX8 cX8_fillSums 8 (yX8_fillSums.name == "<init>") 117 117 none (zRT 117 zRF none q) J) {k7 : Int32 → Int32 → Int32 → zHp → Option zHp} (hk7 : ∀ (a2 : Int32) (a3 : Int32) (a4 : Int32) (h : zHp), k7 a2 a3 a4 h = some q → J 7 [(0, .ref 35), (1, .ref 44), (2, .int a2), (3, .int a3), (4, .int a4)] [] 117 zRF h) : ∀ (f : Nat) (a2 : Int32) (a3 : Int32) (a4 : Int32) (a5 : Int32) (a6 : Int32) (a7 : Int32) (h : zHp), s_X8_fillSums_44_L34 k7 f a2 a3 a4 a5 a6 a7 h = some q → J 34 [(0, .ref 35), (1, .ref 44), (2, .int a2), (3, .int a3), (4, .int a4), (5, .int a5), (6, .int a6), (7, .int a7)] [] 117 zRF h := by
  intro f
  induction f with
  | zero => intro _ _ _ _ _ _ h e; exact absurd e (fun z => by cases z)
  | succ f ih =>
    intro a2 a3 a4 a5 a6 a7 h e
    rw [s_X8_fillSums_44_L34] at e
    refine zv_iload X dX8_fillSums_34 rfl ?_
    refine zv_iload X dX8_fillSums_36 rfl ?_
    refine zv_icmp_ge (tgt := 66) X dX8_fillSums_38 (by decide) (fun c1 => ?_) (fun c1 => ?_)
    · replace e := zit e c1
      refine zv_iinc (k := 4) (v := a4 + (1 : Int32)) (lv' := [(4, .int (a4 + (1 : Int32))), (0, .ref 35), (1, .ref 44), (2, .int a2), (3, .int a3), (5, .int a5), (6, .int a6), (7, .int a7)]) X dX8_fillSums_66 rfl rfl (Nat.le_of_ble_eq_true rfl) rfl ?_
      refine zv_goto (tgt := 7) X dX8_fillSums_69 (by decide) ?_
      exact zv_pick X [1, 2, 3, 4, 0] rfl (hk7 _ _ _ _ e)
    · replace e := zif e c1
      refine zv_aload_n X dX8_fillSums_41 rfl rfl ?_
      refine zv_iload X dX8_fillSums_42 rfl ?_
      refine zv_iload X dX8_fillSums_44 rfl ?_
      refine zv_iadd X dX8_fillSums_46 ?_
      refine zv_aload_n X dX8_fillSums_47 rfl rfl ?_
      refine zv_iload X dX8_fillSums_48 rfl ?_
      refine zb e (fun v2 gv2 e => ?_)
      refine zv_iald X zk_44 zl_44 zb_44 dX8_fillSums_50 gv2 ?_
      refine zv_iload X dX8_fillSums_51 rfl ?_
      refine zv_iadd X dX8_fillSums_53 ?_
      refine zb e (fun h3 gh3 e => ?_)
      refine zv_iast X zk_44 zl_44 zb_44 dX8_fillSums_54 gh3 ?_
      refine zv_iload X dX8_fillSums_55 rfl ?_
      refine zv_iconst (v := (1 : Int32)) X dX8_fillSums_57 zic_1 ?_
      refine zv_iload_n X dX8_fillSums_58 rfl rfl ?_
      refine zv_ishl X dX8_fillSums_59 ?_
      refine zv_iadd X dX8_fillSums_60 ?_
      refine zb e (fun v4 gv4 e => ?_)
      refine zv_nmI X gv4 ?_
      refine zv_istore (i := 7) (lv' := [(7, .int v4), (0, .ref 35), (1, .ref 44), (2, .int a2), (3, .int a3), (4, .int a4), (5, .int a5), (6, .int a6)]) X dX8_fillSums_61 (Nat.le_of_ble_eq_true rfl) rfl ?_
      refine zv_goto (tgt := 34) X dX8_fillSums_63 (by decide) ?_
      exact zv_pick X [1, 2, 3, 4, 5, 6, 7, 0] rfl (ih _ _ _ _ _ _ _ e)
set_option maxRecDepth 100000 in
set_option maxHeartbeats 4000000 in
theorem k_X8_fillSums_44_L7 {l : Launch} {D : va_G} {cy : Nat → ClassId} {S0 d : Nat} {J : zJ} (q : zHp) (hd : 1 ≤ d) (X : zOK l D cy S0 d RX8 cX8_fillSums 8 (yX8_fillSums.name == "<init>") 117 117 none (zRT 117 zRF none q) J) : ∀ (f : Nat) (a2 : Int32) (a3 : Int32) (a4 : Int32) (h : zHp), s_X8_fillSums_44_L7 f a2 a3 a4 h = some q → J 7 [(0, .ref 35), (1, .ref 44), (2, .int a2), (3, .int a3), (4, .int a4)] [] 117 zRF h := by
  intro f
  induction f with
  | zero => intro _ _ _ h e; exact absurd e (fun z => by cases z)
  | succ f ih =>
    intro a2 a3 a4 h e
    rw [s_X8_fillSums_44_L7] at e
    refine zv_iload X dX8_fillSums_7 rfl ?_
    refine zv_aload_n X dX8_fillSums_9 rfl rfl ?_
    refine zv_getI X zf_RX8_42 zk_35 zb_35 dX8_fillSums_10 ?_
    refine zv_icmp_ge (tgt := 72) X dX8_fillSums_13 (by decide) (fun c1 => ?_) (fun c1 => ?_)
    · replace e := zit e c1
      exact zv_retV X e rfl dX8_fillSums_72
    · replace e := zif e c1
      refine zv_iconst (v := (1 : Int32)) X dX8_fillSums_16 zic_1 ?_
      refine zv_iload X dX8_fillSums_17 rfl ?_
      refine zv_ishl X dX8_fillSums_19 ?_
      refine zb e (fun v2 gv2 e => ?_)
      refine zv_nmI X gv2 ?_
      refine zv_istore (i := 5) (lv' := [(5, .int v2), (0, .ref 35), (1, .ref 44), (2, .int a2), (3, .int a3), (4, .int a4)]) X dX8_fillSums_20 (Nat.le_of_ble_eq_true rfl) rfl ?_
      refine zv_aload_n X dX8_fillSums_22 rfl rfl ?_
      refine zv_iload X dX8_fillSums_23 rfl ?_
      refine zv_iload_n X dX8_fillSums_25 rfl rfl ?_
      refine zb e (fun q3 gq3 e => ?_)
      refine zv_callV (stk := [.int a3, .int a4, .ref 35]) (as := [.int a4, .int a3]) (st := []) (k := 35) X zl_RX8_74 zm_X8_priceOf (k_X8_priceOf (d := d - 1) (by omega) gq3) (by omega) zb_35 (by rw [zk_35]; rfl) rfl rfl (Nat.le_of_ble_eq_true rfl) (Nat.le_refl _) rfl dX8_fillSums_26 ?_
      show J 29 [(5, .int v2), (0, .ref 35), (1, .ref 44), (2, .int a2), (3, .int a3), (4, .int a4)] [.int q3.1] 117 zRF q3.2
      refine zv_istore (i := 6) (lv' := [(6, .int q3.1), (5, .int v2), (0, .ref 35), (1, .ref 44), (2, .int a2), (3, .int a3), (4, .int a4)]) X dX8_fillSums_29 (Nat.le_of_ble_eq_true rfl) rfl ?_
      refine zv_iconst (v := (0 : Int32)) X dX8_fillSums_31 zic_0 ?_
      refine zv_istore (i := 7) (lv' := [(7, .int (0 : Int32)), (6, .int q3.1), (5, .int v2), (0, .ref 35), (1, .ref 44), (2, .int a2), (3, .int a3), (4, .int a4)]) X dX8_fillSums_32 (Nat.le_of_ble_eq_true rfl) rfl ?_
      exact zv_pick X [3, 4, 5, 6, 7, 2, 1, 0] rfl (k_X8_fillSums_44_L34 q hd X ih _ _ _ _ _ _ _ _ e)
set_option maxRecDepth 100000 in
set_option maxHeartbeats 4000000 in
theorem k_X8_fillSums_44 {l : Launch} {D : va_G} {cy : Nat → ClassId} {S0 d : Nat} (hd : 1 ≤ d) {a2 : Int32} {a3 : Int32} {h : zHp} {q : zHp} (e : s_X8_fillSums_44 a2 a3 h = some q) : zCT l D cy S0 d yX8_fillSums cX8_fillSums 8 none [.ref 35, .ref 44, .int a2, .int a3] 117 zRF h none 117 zRF q := by
  unfold s_X8_fillSums_44 at e
  refine zCT_of RX8 rfl zm_X8_fillSums (Nat.le_refl _) (Nat.le_of_ble_eq_true rfl) (fun J X => ?_)
  show J 0 [(0, .ref 35), (1, .ref 44), (2, .int a2), (3, .int a3)] [] 117 zRF h
  refine zv_aload_n X dX8_fillSums_0 rfl rfl ?_
  refine zv_iconst (v := (0 : Int32)) X dX8_fillSums_1 zic_0 ?_
  refine zv_iconst (v := (0 : Int32)) X dX8_fillSums_2 zic_0 ?_
  refine zb e (fun h1 gh1 e => ?_)
  refine zv_iast X zk_44 zl_44 zb_44 dX8_fillSums_3 gh1 ?_
  refine zv_iload_n X dX8_fillSums_4 rfl rfl ?_
  refine zv_istore (i := 4) (lv' := [(4, .int a2), (0, .ref 35), (1, .ref 44), (2, .int a2), (3, .int a3)]) X dX8_fillSums_5 (Nat.le_of_ble_eq_true rfl) rfl ?_
  exact zv_pick X [1, 2, 3, 4, 0] rfl (k_X8_fillSums_44_L7 q hd X _ _ _ _ _ e)

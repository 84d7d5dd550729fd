-- X10_swap
def s_X10_swap_L9  (h : zHp) : Option (Int32 × zHp) :=
  (s_X10_refuse (-4 : Int32) h).bind fun q1 =>
  some (q1.1, q1.2)
def s_X10_swap_L28  (h : zHp) : Option (Int32 × zHp) :=
  (s_X10_refuse (-6 : Int32) h).bind fun q1 =>
  some (q1.1, q1.2)
def s_X10_swap_L84 : Nat → Int32 → Int32 → Int32 → zHp → Option (Int32 × zHp)
  | 0, _, _, _, _ => none
  | f + 1, a3, a4, a5, h =>
  if a5 ≤ 0 then
    (zri h 105 5 a3).bind fun v2 =>
    some (v2, h)
  else
    (zrem ((a4 * (37 : Int32)) + (101 : Int32)) (10007 : Int32)).bind fun v3 =>
    (zrem v3 (a5 + (1 : Int32))).bind fun v4 =>
    (zri h 105 5 a5).bind fun v5 =>
    (zri h 105 5 v4).bind fun v6 =>
    (zui h 105 5 a5 v6).bind fun h7 =>
    (zui h7 105 5 v4 v5).bind fun h8 =>
    s_X10_swap_L84 f a3 v3 (a5 + (-1 : Int32)) h8
def s_X10_swap_L55 : Nat → Int32 → Int32 → Int32 → Int32 → zHp → Option (Int32 × zHp)
  | 0, _, _, _, _, _ => none
  | f + 1, a1, a2, a3, a4, h =>
  if a2 ≤ a4 then
    (some (a2 - (1 : Int32))).bind fun v2 =>
    s_X10_swap_L84 zFU a3 a1 v2 h
  else
    (zui h 105 5 a4 a4).bind fun h3 =>
    s_X10_swap_L55 f a1 a2 a3 (a4 + (1 : Int32)) h3
def s_X10_swap (a1 : Int32) (a2 : Int32) (a3 : Int32) (h : zHp) : Option (Int32 × zHp) :=
  if a1 < 0 then
    s_X10_swap_L9 h
  else
    if (2 : Int32) ≤ a2 then
      if (9999 : Int32) < a1 then
        s_X10_swap_L28 h
      else
        if a2 ≤ (5 : Int32) then
          (s_X10_in a3 (0 : Int32) (a2 - (1 : Int32)) h).bind fun q5 =>
          if q5.1 = 0 then
            (s_X10_refuse (-1 : Int32) q5.2).bind fun q7 =>
            some (q7.1, q7.2)
          else
            s_X10_swap_L55 zFU a1 a2 a3 (0 : Int32) q5.2
        else
          s_X10_swap_L28 h
    else
      s_X10_swap_L9 h
set_option maxRecDepth 100000 in
set_option maxHeartbeats 4000000 in
theorem k_X10_swap_L9 {l : Launch} {D : va_G} {cy : Nat → ClassId} {S0 d : Nat} {J : zJ} (q : (Int32 × zHp)) (hd : 1 ≤ d) (X : zOK l D cy S0 d RX10 cX10_swap 8 (yX10_swap.name == "<init>") 117 117 (some .int) (zRT 117 zRF (some (.int q.1)) q.2) J) : ∀  (h : zHp), s_X10_swap_L9  h = some q → J 9 [(0, .ref 67)] [] 117 zRF h := by
  intro  h e
  unfold s_X10_swap_L9 at e
  refine zv_aload_n X dX10_swap_9 rfl rfl ?_
  refine zv_bipush (v := (-4 : Int32)) X dX10_swap_10 zbp_m4 ?_
  refine zb e (fun q1 gq1 e => ?_)
  refine zv_callV (stk := [.int (-4 : Int32), .ref 67]) (as := [.int (-4 : Int32)]) (st := []) (k := 67) X zl_RX10_175 zm_X10_refuse (k_X10_refuse (d := d - 1) (by omega) gq1) (by omega) zb_67 (by rw [zk_67]; rfl) rfl rfl (Nat.le_of_ble_eq_true rfl) (Nat.le_refl _) rfl dX10_swap_12 ?_
  show J 15 [(0, .ref 67)] [.int q1.1] 117 zRF q1.2
  exact zv_retI X e rfl dX10_swap_15
set_option maxRecDepth 100000 in
set_option maxHeartbeats 4000000 in
theorem k_X10_swap_L28 {l : Launch} {D : va_G} {cy : Nat → ClassId} {S0 d : Nat} {J : zJ} (q : (Int32 × zHp)) (hd : 1 ≤ d) (X : zOK l D cy S0 d RX10 cX10_swap 8 (yX10_swap.name == "<init>") 117 117 (some .int) (zRT 117 zRF (some (.int q.1)) q.2) J) : ∀  (h : zHp), s_X10_swap_L28  h = some q → J 28 [(0, .ref 67)] [] 117 zRF h := by
  intro  h e
  unfold s_X10_swap_L28 at e
  refine zv_aload_n X dX10_swap_28 rfl rfl ?_
  refine zv_bipush (v := (-6 : Int32)) X dX10_swap_29 zbp_m6 ?_
  refine zb e (fun q1 gq1 e => ?_)
  refine zv_callV (stk := [.int (-6 : Int32), .ref 67]) (as := [.int (-6 : Int32)]) (st := []) (k := 67) X zl_RX10_175 zm_X10_refuse (k_X10_refuse (d := d - 1) (by omega) gq1) (by omega) zb_67 (by rw [zk_67]; rfl) rfl rfl (Nat.le_of_ble_eq_true rfl) (Nat.le_refl _) rfl dX10_swap_31 ?_
  show J 34 [(0, .ref 67)] [.int q1.1] 117 zRF q1.2
  exact zv_retI X e rfl dX10_swap_34
set_option maxRecDepth 100000 in
set_option maxHeartbeats 4000000 in
theorem k_X10_swap_L84 {l : Launch} {D : va_G} {cy : Nat → ClassId} {S0 d : Nat} {J : zJ} (q : (Int32 × zHp)) (hd : 1 ≤ d) (X : zOK l D cy S0 d RX10 cX10_swap 8 (yX10_swap.name == "<init>") 117 117 (some .int) (zRT 117 zRF (some (.int q.1)) q.2) J) : ∀ (f : Nat) (a3 : Int32) (a4 : Int32) (a5 : Int32) (h : zHp), s_X10_swap_L84 f a3 a4 a5 h = some q → J 84 [(0, .ref 67), (3, .int a3), (4, .int a4), (5, .int a5)] [] 117 zRF h := by
  intro f
  induction f with
  | zero => intro _ _ _ h e; exact absurd e (fun z => by cases z)
  | succ f ih =>
    intro a3 a4 a5 h e
    rw [s_X10_swap_L84] at e
    refine zv_iload X dX10_swap_84 rfl ?_
    refine zv_if_le (tgt := 150) X dX10_swap_86 (by decide) (fun c1 => ?_) (fun c1 => ?_)
    · replace e := zit e c1
      refine zv_aload_n X dX10_swap_150 rfl rfl ?_
      refine zv_getR X zf_RX10_127 znt_a zk_67 zb_67 zr_67_47 dX10_swap_151 ?_
      refine zv_iload_n X dX10_swap_154 rfl rfl ?_
      refine zb e (fun v2 gv2 e => ?_)
      refine zv_iald X zk_105 zl_105 zb_105 dX10_swap_155 gv2 ?_
      exact zv_retI X e rfl dX10_swap_156
    · replace e := zif e c1
      refine zv_iload X dX10_swap_89 rfl ?_
      refine zv_bipush (v := (37 : Int32)) X dX10_swap_91 zbp_37 ?_
      refine zv_imul X dX10_swap_93 ?_
      refine zv_bipush (v := (101 : Int32)) X dX10_swap_94 zbp_101 ?_
      refine zv_iadd X dX10_swap_96 ?_
      refine zv_sipush (v := (10007 : Int32)) X dX10_swap_97 zsp_10007 ?_
      refine zb e (fun v3 gv3 e => ?_)
      refine zv_irem X dX10_swap_100 gv3 ?_
      refine zv_istore (i := 4) (lv' := [(4, .int v3), (0, .ref 67), (3, .int a3), (5, .int a5)]) X dX10_swap_101 (Nat.le_of_ble_eq_true rfl) rfl ?_
      refine zv_iload X dX10_swap_103 rfl ?_
      refine zv_iload X dX10_swap_105 rfl ?_
      refine zv_iconst (v := (1 : Int32)) X dX10_swap_107 zic_1 ?_
      refine zv_iadd X dX10_swap_108 ?_
      refine zb e (fun v4 gv4 e => ?_)
      refine zv_irem X dX10_swap_109 gv4 ?_
      refine zv_istore (i := 6) (lv' := [(6, .int v4), (4, .int v3), (0, .ref 67), (3, .int a3), (5, .int a5)]) X dX10_swap_110 (Nat.le_of_ble_eq_true rfl) rfl ?_
      refine zv_aload_n X dX10_swap_112 rfl rfl ?_
      refine zv_getR X zf_RX10_127 znt_a zk_67 zb_67 zr_67_47 dX10_swap_113 ?_
      refine zv_iload X dX10_swap_116 rfl ?_
      refine zb e (fun v5 gv5 e => ?_)
      refine zv_iald X zk_105 zl_105 zb_105 dX10_swap_118 gv5 ?_
      refine zv_istore (i := 7) (lv' := [(7, .int v5), (6, .int v4), (4, .int v3), (0, .ref 67), (3, .int a3), (5, .int a5)]) X dX10_swap_119 (Nat.le_of_ble_eq_true rfl) rfl ?_
      refine zv_aload_n X dX10_swap_121 rfl rfl ?_
      refine zv_getR X zf_RX10_127 znt_a zk_67 zb_67 zr_67_47 dX10_swap_122 ?_
      refine zv_iload X dX10_swap_125 rfl ?_
      refine zv_aload_n X dX10_swap_127 rfl rfl ?_
      refine zv_getR X zf_RX10_127 znt_a zk_67 zb_67 zr_67_47 dX10_swap_128 ?_
      refine zv_iload X dX10_swap_131 rfl ?_
      refine zb e (fun v6 gv6 e => ?_)
      refine zv_iald X zk_105 zl_105 zb_105 dX10_swap_133 gv6 ?_
      refine zb e (fun h7 gh7 e => ?_)
      refine zv_iast X zk_105 zl_105 zb_105 dX10_swap_134 gh7 ?_
      refine zv_aload_n X dX10_swap_135 rfl rfl ?_
      refine zv_getR X zf_RX10_127 znt_a zk_67 zb_67 zr_67_47 dX10_swap_136 ?_
      refine zv_iload X dX10_swap_139 rfl ?_
      refine zv_iload X dX10_swap_141 rfl ?_
      refine zb e (fun h8 gh8 e => ?_)
      refine zv_iast X zk_105 zl_105 zb_105 dX10_swap_143 gh8 ?_
      refine zv_iinc (k := 5) (v := a5 + (-1 : Int32)) (lv' := [(5, .int (a5 + (-1 : Int32))), (7, .int v5), (6, .int v4), (4, .int v3), (0, .ref 67), (3, .int a3)]) X dX10_swap_144 rfl rfl (Nat.le_of_ble_eq_true rfl) rfl ?_
      refine zv_goto (tgt := 84) X dX10_swap_147 (by decide) ?_
      exact zv_pick X [4, 5, 3, 0] rfl (ih _ _ _ _ e)
set_option maxRecDepth 100000 in
set_option maxHeartbeats 4000000 in
theorem k_X10_swap_L55 {l : Launch} {D : va_G} {cy : Nat → ClassId} {S0 d : Nat} {J : zJ} (q : (Int32 × zHp)) (hd : 1 ≤ d) (X : zOK l D cy S0 d RX10 cX10_swap 8 (yX10_swap.name == "<init>") 117 117 (some .int) (zRT 117 zRF (some (.int q.1)) q.2) J) : ∀ (f : Nat) (a1 : Int32) (a2 : Int32) (a3 : Int32) (a4 : Int32) (h : zHp), s_X10_swap_L55 f a1 a2 a3 a4 h = some q → J 55 [(0, .ref 67), (1, .int a1), (2, .int a2), (3, .int a3), (4, .int a4)] [] 117 zRF h := by
  intro f
  induction f with
  | zero => intro _ _ _ _ h e; exact absurd e (fun z => by cases z)
  | succ f ih =>
    intro a1 a2 a3 a4 h e
    rw [s_X10_swap_L55] at e
    refine zv_iload X dX10_swap_55 rfl ?_
    refine zv_iload_n X dX10_swap_57 rfl rfl ?_
    refine zv_icmp_ge (tgt := 76) X dX10_swap_58 (by decide) (fun c1 => ?_) (fun c1 => ?_)
    · replace e := zit e c1
      refine zv_iload_n X dX10_swap_76 rfl rfl ?_
      refine zv_istore (i := 4) (lv' := [(4, .int a1), (0, .ref 67), (1, .int a1), (2, .int a2), (3, .int a3)]) X dX10_swap_77 (Nat.le_of_ble_eq_true rfl) rfl ?_
      refine zv_iload_n X dX10_swap_79 rfl rfl ?_
      refine zv_iconst (v := (1 : Int32)) X dX10_swap_80 zic_1 ?_
      refine zv_isub X dX10_swap_81 ?_
      refine zb e (fun v2 gv2 e => ?_)
      refine zv_nmI X gv2 ?_
      refine zv_istore (i := 5) (lv' := [(5, .int v2), (4, .int a1), (0, .ref 67), (1, .int a1), (2, .int a2), (3, .int a3)]) X dX10_swap_82 (Nat.le_of_ble_eq_true rfl) rfl ?_
      exact zv_pick X [2, 5, 1, 0] rfl (k_X10_swap_L84 q hd X _ _ _ _ _ e)
    · replace e := zif e c1
      refine zv_aload_n X dX10_swap_61 rfl rfl ?_
      refine zv_getR X zf_RX10_127 znt_a zk_67 zb_67 zr_67_47 dX10_swap_62 ?_
      refine zv_iload X dX10_swap_65 rfl ?_
      refine zv_iload X dX10_swap_67 rfl ?_
      refine zb e (fun h3 gh3 e => ?_)
      refine zv_iast X zk_105 zl_105 zb_105 dX10_swap_69 gh3 ?_
      refine zv_iinc (k := 4) (v := a4 + (1 : Int32)) (lv' := [(4, .int (a4 + (1 : Int32))), (0, .ref 67), (1, .int a1), (2, .int a2), (3, .int a3)]) X dX10_swap_70 rfl rfl (Nat.le_of_ble_eq_true rfl) rfl ?_
      refine zv_goto (tgt := 55) X dX10_swap_73 (by decide) ?_
      exact zv_pick X [1, 2, 3, 4, 0] rfl (ih _ _ _ _ _ e)
set_option maxRecDepth 100000 in
set_option maxHeartbeats 4000000 in
theorem k_X10_swap {l : Launch} {D : va_G} {cy : Nat → ClassId} {S0 d : Nat} (hd : 1 ≤ d) {a1 : Int32} {a2 : Int32} {a3 : Int32} {h : zHp} {q : (Int32 × zHp)} (e : s_X10_swap a1 a2 a3 h = some q) : zCT l D cy S0 d yX10_swap cX10_swap 8 (some .int) [.ref 67, .int a1, .int a2, .int a3] 117 zRF h (some (.int q.1)) 117 zRF q.2 := by
  unfold s_X10_swap at e
  refine zCT_of RX10 rfl zm_X10_swap (Nat.le_refl _) (Nat.le_of_ble_eq_true rfl) (fun J X => ?_)
  show J 0 [(0, .ref 67), (1, .int a1), (2, .int a2), (3, .int a3)] [] 117 zRF h
  refine zv_iload_n X dX10_swap_0 rfl rfl ?_
  refine zv_if_lt (tgt := 9) X dX10_swap_1 (by decide) (fun c1 => ?_) (fun c1 => ?_)
  · replace e := zit e c1
    exact zv_pick X [0] rfl (k_X10_swap_L9 q hd X  _ e)
  · replace e := zif e c1
    refine zv_iload_n X dX10_swap_4 rfl rfl ?_
    refine zv_iconst (v := (2 : Int32)) X dX10_swap_5 zic_2 ?_
    refine zv_icmp_ge (tgt := 16) X dX10_swap_6 (by decide) (fun c2 => ?_) (fun c2 => ?_)
    · replace e := zit e c2
      refine zv_iload_n X dX10_swap_16 rfl rfl ?_
      refine zv_sipush (v := (9999 : Int32)) X dX10_swap_17 zsp_9999 ?_
      refine zv_icmp_gt (tgt := 28) X dX10_swap_20 (by decide) (fun c3 => ?_) (fun c3 => ?_)
      · replace e := zit e c3
        exact zv_pick X [0] rfl (k_X10_swap_L28 q hd X  _ e)
      · replace e := zif e c3
        refine zv_iload_n X dX10_swap_23 rfl rfl ?_
        refine zv_iconst (v := (5 : Int32)) X dX10_swap_24 zic_5 ?_
        refine zv_icmp_le (tgt := 35) X dX10_swap_25 (by decide) (fun c4 => ?_) (fun c4 => ?_)
        · replace e := zit e c4
          refine zv_iload_n X dX10_swap_35 rfl rfl ?_
          refine zv_iconst (v := (0 : Int32)) X dX10_swap_36 zic_0 ?_
          refine zv_iload_n X dX10_swap_37 rfl rfl ?_
          refine zv_iconst (v := (1 : Int32)) X dX10_swap_38 zic_1 ?_
          refine zv_isub X dX10_swap_39 ?_
          refine zb e (fun q5 gq5 e => ?_)
          refine zv_callS (stk := [.int (a2 - (1 : Int32)), .int (0 : Int32), .int a3]) (as := [.int a3, .int (0 : Int32), .int (a2 - (1 : Int32))]) (st := []) X zl_RX10_168 zm_X10_in (k_X10_in (d := d - 1) (by omega) gq5) (by omega) rfl (Nat.le_of_ble_eq_true rfl) (Nat.le_refl _) rfl dX10_swap_40 ?_
          show J 43 [(0, .ref 67), (1, .int a1), (2, .int a2), (3, .int a3)] [.int q5.1] 117 zRF q5.2
          refine zv_if_ne (tgt := 52) X dX10_swap_43 (by decide) (fun c6 => ?_) (fun c6 => ?_)
          · replace e := zif e c6
            refine zv_iconst (v := (0 : Int32)) X dX10_swap_52 zic_0 ?_
            refine zv_istore (i := 4) (lv' := [(4, .int (0 : Int32)), (0, .ref 67), (1, .int a1), (2, .int a2), (3, .int a3)]) X dX10_swap_53 (Nat.le_of_ble_eq_true rfl) rfl ?_
            exact zv_pick X [1, 2, 3, 4, 0] rfl (k_X10_swap_L55 q hd X _ _ _ _ _ _ e)
          · replace e := zit e c6
            refine zv_aload_n X dX10_swap_46 rfl rfl ?_
            refine zv_iconst (v := (-1 : Int32)) X dX10_swap_47 zic_m1 ?_
            refine zb e (fun q7 gq7 e => ?_)
            refine zv_callV (stk := [.int (-1 : Int32), .ref 67]) (as := [.int (-1 : Int32)]) (st := []) (k := 67) X zl_RX10_175 zm_X10_refuse (k_X10_refuse (d := d - 1) (by omega) gq7) (by omega) zb_67 (by rw [zk_67]; rfl) rfl rfl (Nat.le_of_ble_eq_true rfl) (Nat.le_refl _) rfl dX10_swap_48 ?_
            show J 51 [(0, .ref 67), (1, .int a1), (2, .int a2), (3, .int a3)] [.int q7.1] 117 zRF q7.2
            exact zv_retI X e rfl dX10_swap_51
        · replace e := zif e c4
          exact zv_pick X [0] rfl (k_X10_swap_L28 q hd X  _ e)
    · replace e := zif e c2
      exact zv_pick X [0] rfl (k_X10_swap_L9 q hd X  _ e)
-- X4_shutsOf
def s_X4_shutsOf (a1 : Int32) (h : zHp) : Option (Int32 × zHp) :=
  (zri h 21 20 a1).bind fun v1 =>
  some (v1, h)
set_option maxRecDepth 100000 in
set_option maxHeartbeats 4000000 in
theorem k_X4_shutsOf {l : Launch} {D : va_G} {cy : Nat → ClassId} {S0 d : Nat} (hd : 0 ≤ d) {a1 : Int32} {h : zHp} {q : (Int32 × zHp)} (e : s_X4_shutsOf a1 h = some q) : zCT l D cy S0 d yX4_shutsOf cX4_shutsOf 2 (some .int) [.ref 13, .int a1] 117 zRF h (some (.int q.1)) 117 zRF q.2 := by
  unfold s_X4_shutsOf at e
  refine zCT_of RX4 rfl zm_X4_shutsOf (Nat.le_refl _) (Nat.le_of_ble_eq_true rfl) (fun J X => ?_)
  show J 0 [(0, .ref 13), (1, .int a1)] [] 117 zRF h
  refine zv_aload_n X dX4_shutsOf_0 rfl rfl ?_
  refine zv_getR X zf_RX4_34 znt_a zk_13 zb_13 zr_13_7 dX4_shutsOf_1 ?_
  refine zv_iload_n X dX4_shutsOf_4 rfl rfl ?_
  refine zb e (fun v1 gv1 e => ?_)
  refine zv_iald X zk_21 zl_21 zb_21 dX4_shutsOf_5 gv1 ?_
  exact zv_retI X e rfl dX4_shutsOf_6
-- X4_addShut
def s_X4_addShut (a1 : Int32) (a2 : Int32) (a3 : Int32) (h : zHp) : Option (Int32 × zHp) :=
  (zri h 21 20 a1).bind fun v1 =>
  (some ((a1 * (8 : Int32)) + v1)).bind fun v2 =>
  (zui h 22 160 v2 a2).bind fun h3 =>
  (zui h3 23 160 v2 a3).bind fun h4 =>
  (zri h4 21 20 a1).bind fun v5 =>
  (some (v5 + (1 : Int32))).bind fun v6 =>
  (zui h4 21 20 a1 v6).bind fun h7 =>
  some (v6, h7)
set_option maxRecDepth 100000 in
set_option maxHeartbeats 4000000 in
theorem k_X4_addShut {l : Launch} {D : va_G} {cy : Nat → ClassId} {S0 d : Nat} (hd : 0 ≤ d) {a1 : Int32} {a2 : Int32} {a3 : Int32} {h : zHp} {q : (Int32 × zHp)} (e : s_X4_addShut a1 a2 a3 h = some q) : zCT l D cy S0 d yX4_addShut cX4_addShut 5 (some .int) [.ref 13, .int a1, .int a2, .int a3] 117 zRF h (some (.int q.1)) 117 zRF q.2 := by
  unfold s_X4_addShut at e
  refine zCT_of RX4 rfl zm_X4_addShut (Nat.le_refl _) (Nat.le_of_ble_eq_true rfl) (fun J X => ?_)
  show J 0 [(0, .ref 13), (1, .int a1), (2, .int a2), (3, .int a3)] [] 117 zRF h
  refine zv_iload_n X dX4_addShut_0 rfl rfl ?_
  refine zv_bipush (v := (8 : Int32)) X dX4_addShut_1 zbp_8 ?_
  refine zv_imul X dX4_addShut_3 ?_
  refine zv_aload_n X dX4_addShut_4 rfl rfl ?_
  refine zv_getR X zf_RX4_34 znt_a zk_13 zb_13 zr_13_7 dX4_addShut_5 ?_
  refine zv_iload_n X dX4_addShut_8 rfl rfl ?_
  refine zb e (fun v1 gv1 e => ?_)
  refine zv_iald X zk_21 zl_21 zb_21 dX4_addShut_9 gv1 ?_
  refine zv_iadd X dX4_addShut_10 ?_
  refine zb e (fun v2 gv2 e => ?_)
  refine zv_nmI X gv2 ?_
  refine zv_istore (i := 4) (lv' := [(4, .int v2), (0, .ref 13), (1, .int a1), (2, .int a2), (3, .int a3)]) X dX4_addShut_11 (Nat.le_of_ble_eq_true rfl) rfl ?_
  refine zv_aload_n X dX4_addShut_13 rfl rfl ?_
  refine zv_getR X zf_RX4_37 znt_a zk_13 zb_13 zr_13_8 dX4_addShut_14 ?_
  refine zv_iload X dX4_addShut_17 rfl ?_
  refine zv_iload_n X dX4_addShut_19 rfl rfl ?_
  refine zb e (fun h3 gh3 e => ?_)
  refine zv_iast X zk_22 zl_22 zb_22 dX4_addShut_20 gh3 ?_
  refine zv_aload_n X dX4_addShut_21 rfl rfl ?_
  refine zv_getR X zf_RX4_40 znt_a zk_13 zb_13 zr_13_9 dX4_addShut_22 ?_
  refine zv_iload X dX4_addShut_25 rfl ?_
  refine zv_iload_n X dX4_addShut_27 rfl rfl ?_
  refine zb e (fun h4 gh4 e => ?_)
  refine zv_iast X zk_23 zl_23 zb_23 dX4_addShut_28 gh4 ?_
  refine zv_aload_n X dX4_addShut_29 rfl rfl ?_
  refine zv_getR X zf_RX4_34 znt_a zk_13 zb_13 zr_13_7 dX4_addShut_30 ?_
  refine zv_iload_n X dX4_addShut_33 rfl rfl ?_
  refine zv_dup2 X dX4_addShut_34 ?_
  refine zb e (fun v5 gv5 e => ?_)
  refine zv_iald X zk_21 zl_21 zb_21 dX4_addShut_35 gv5 ?_
  refine zv_iconst (v := (1 : Int32)) X dX4_addShut_36 zic_1 ?_
  refine zv_iadd X dX4_addShut_37 ?_
  refine zb e (fun v6 gv6 e => ?_)
  refine zv_nmI X gv6 ?_
  refine zv_dup_x2 X dX4_addShut_38 ?_
  refine zb e (fun h7 gh7 e => ?_)
  refine zv_iast X zk_21 zl_21 zb_21 dX4_addShut_39 gh7 ?_
  exact zv_retI X e rfl dX4_addShut_40
-- X9_shut
def s_X9_shut_L26  (h : zHp) : Option (Int32 × zHp) :=
  (s_X9_refused (-4 : Int32) h).bind fun q1 =>
  some (q1.1, q1.2)
def s_X9_shut_L53  (h : zHp) : Option (Int32 × zHp) :=
  (s_X9_refused (-6 : Int32) h).bind fun q1 =>
  some (q1.1, q1.2)
def s_X9_shut (a1 : Int32) (a2 : Int32) (a3 : Int32) (h : zHp) : Option (Int32 × zHp) :=
  (s_X4_has a1 h).bind fun q1 =>
  if q1.1 = 0 then
    (s_X9_refused (-1 : Int32) q1.2).bind fun q9 =>
    some (q9.1, q9.2)
  else
    if a2 < 0 then
      s_X9_shut_L26 q1.2
    else
      if a2 ≤ a3 then
        if (1500 : Int32) < a3 then
          s_X9_shut_L53 q1.2
        else
          (s_X4_shutsOf a1 q1.2).bind fun q6 =>
          if q6.1 < (8 : Int32) then
            (s_X4_addShut a1 a2 a3 q6.2).bind fun q8 =>
            some (q8.1, q8.2)
          else
            s_X9_shut_L53 q6.2
      else
        s_X9_shut_L26 q1.2
set_option maxRecDepth 100000 in
set_option maxHeartbeats 4000000 in
theorem k_X9_shut_L26 {l : Launch} {D : va_G} {cy : Nat → ClassId} {S0 d : Nat} {J : zJ} (q : (Int32 × zHp)) (hd : 1 ≤ d) (X : zOK l D cy S0 d RX9 cX9_shut 4 (yX9_shut.name == "<init>") 117 117 (some .int) (zRT 117 zRF (some (.int q.1)) q.2) J) : ∀  (h : zHp), s_X9_shut_L26  h = some q → J 26 [(0, .ref 0)] [] 117 zRF h := by
  intro  h e
  unfold s_X9_shut_L26 at e
  refine zv_aload_n X dX9_shut_26 rfl rfl ?_
  refine zv_bipush (v := (-4 : Int32)) X dX9_shut_27 zbp_m4 ?_
  refine zb e (fun q1 gq1 e => ?_)
  refine zv_callV (stk := [.int (-4 : Int32), .ref 0]) (as := [.int (-4 : Int32)]) (st := []) (k := 0) X zl_RX9_108 zm_X9_refused (k_X9_refused (d := d - 1) (by omega) gq1) (by omega) zb_0 (by rw [zk_0]; rfl) rfl rfl (Nat.le_of_ble_eq_true rfl) (Nat.le_refl _) rfl dX9_shut_29 ?_
  show J 32 [(0, .ref 0)] [.int q1.1] 117 zRF q1.2
  exact zv_retI X e rfl dX9_shut_32
set_option maxRecDepth 100000 in
set_option maxHeartbeats 4000000 in
theorem k_X9_shut_L53 {l : Launch} {D : va_G} {cy : Nat → ClassId} {S0 d : Nat} {J : zJ} (q : (Int32 × zHp)) (hd : 1 ≤ d) (X : zOK l D cy S0 d RX9 cX9_shut 4 (yX9_shut.name == "<init>") 117 117 (some .int) (zRT 117 zRF (some (.int q.1)) q.2) J) : ∀  (h : zHp), s_X9_shut_L53  h = some q → J 53 [(0, .ref 0)] [] 117 zRF h := by
  intro  h e
  unfold s_X9_shut_L53 at e
  refine zv_aload_n X dX9_shut_53 rfl rfl ?_
  refine zv_bipush (v := (-6 : Int32)) X dX9_shut_54 zbp_m6 ?_
  refine zb e (fun q1 gq1 e => ?_)
  refine zv_callV (stk := [.int (-6 : Int32), .ref 0]) (as := [.int (-6 : Int32)]) (st := []) (k := 0) X zl_RX9_108 zm_X9_refused (k_X9_refused (d := d - 1) (by omega) gq1) (by omega) zb_0 (by rw [zk_0]; rfl) rfl rfl (Nat.le_of_ble_eq_true rfl) (Nat.le_refl _) rfl dX9_shut_56 ?_
  show J 59 [(0, .ref 0)] [.int q1.1] 117 zRF q1.2
  exact zv_retI X e rfl dX9_shut_59
set_option maxRecDepth 100000 in
set_option maxHeartbeats 4000000 in
theorem k_X9_shut {l : Launch} {D : va_G} {cy : Nat → ClassId} {S0 d : Nat} (hd : 1 ≤ d) {a1 : Int32} {a2 : Int32} {a3 : Int32} {h : zHp} {q : (Int32 × zHp)} (e : s_X9_shut a1 a2 a3 h = some q) : zCT l D cy S0 d yX9_shut cX9_shut 4 (some .int) [.ref 0, .int a1, .int a2, .int a3] 117 zRF h (some (.int q.1)) 117 zRF q.2 := by
  unfold s_X9_shut at e
  refine zCT_of RX9 rfl zm_X9_shut (Nat.le_refl _) (Nat.le_of_ble_eq_true rfl) (fun J X => ?_)
  show J 0 [(0, .ref 0), (1, .int a1), (2, .int a2), (3, .int a3)] [] 117 zRF h
  refine zv_aload_n X dX9_shut_0 rfl rfl ?_
  refine zv_getR X zf_RX9_36 znt_o zk_0 zb_0 zr_0_6 dX9_shut_1 ?_
  refine zv_iload_n X dX9_shut_4 rfl rfl ?_
  refine zb e (fun q1 gq1 e => ?_)
  refine zv_callV (stk := [.int a1, .ref 13]) (as := [.int a1]) (st := []) (k := 13) X zl_RX9_146 zm_X4_has (k_X4_has (d := d - 1) (by omega) gq1) (by omega) zb_13 (by rw [zk_13]; rfl) rfl rfl (Nat.le_of_ble_eq_true rfl) (Nat.le_refl _) rfl dX9_shut_5 ?_
  show J 8 [(0, .ref 0), (1, .int a1), (2, .int a2), (3, .int a3)] [.int q1.1] 117 zRF q1.2
  refine zv_if_ne (tgt := 17) X dX9_shut_8 (by decide) (fun c2 => ?_) (fun c2 => ?_)
  · replace e := zif e c2
    refine zv_iload_n X dX9_shut_17 rfl rfl ?_
    refine zv_if_lt (tgt := 26) X dX9_shut_18 (by decide) (fun c3 => ?_) (fun c3 => ?_)
    · replace e := zit e c3
      exact zv_pick X [0] rfl (k_X9_shut_L26 q hd X  _ e)
    · replace e := zif e c3
      refine zv_iload_n X dX9_shut_21 rfl rfl ?_
      refine zv_iload_n X dX9_shut_22 rfl rfl ?_
      refine zv_icmp_ge (tgt := 33) X dX9_shut_23 (by decide) (fun c4 => ?_) (fun c4 => ?_)
      · replace e := zit e c4
        refine zv_iload_n X dX9_shut_33 rfl rfl ?_
        refine zv_sipush (v := (1500 : Int32)) X dX9_shut_34 zsp_1500 ?_
        refine zv_icmp_gt (tgt := 53) X dX9_shut_37 (by decide) (fun c5 => ?_) (fun c5 => ?_)
        · replace e := zit e c5
          exact zv_pick X [0] rfl (k_X9_shut_L53 q hd X  _ e)
        · replace e := zif e c5
          refine zv_aload_n X dX9_shut_40 rfl rfl ?_
          refine zv_getR X zf_RX9_36 znt_o zk_0 zb_0 zr_0_6 dX9_shut_41 ?_
          refine zv_iload_n X dX9_shut_44 rfl rfl ?_
          refine zb e (fun q6 gq6 e => ?_)
          refine zv_callV (stk := [.int a1, .ref 13]) (as := [.int a1]) (st := []) (k := 13) X zl_RX9_254 zm_X4_shutsOf (k_X4_shutsOf (d := d - 1) (by omega) gq6) (by omega) zb_13 (by rw [zk_13]; rfl) rfl rfl (Nat.le_of_ble_eq_true rfl) (Nat.le_refl _) rfl dX9_shut_45 ?_
          show J 48 [(0, .ref 0), (1, .int a1), (2, .int a2), (3, .int a3)] [.int q6.1] 117 zRF q6.2
          refine zv_bipush (v := (8 : Int32)) X dX9_shut_48 zbp_8 ?_
          refine zv_icmp_lt (tgt := 60) X dX9_shut_50 (by decide) (fun c7 => ?_) (fun c7 => ?_)
          · replace e := zit e c7
            refine zv_aload_n X dX9_shut_60 rfl rfl ?_
            refine zv_getR X zf_RX9_36 znt_o zk_0 zb_0 zr_0_6 dX9_shut_61 ?_
            refine zv_iload_n X dX9_shut_64 rfl rfl ?_
            refine zv_iload_n X dX9_shut_65 rfl rfl ?_
            refine zv_iload_n X dX9_shut_66 rfl rfl ?_
            refine zb e (fun q8 gq8 e => ?_)
            refine zv_callV (stk := [.int a3, .int a2, .int a1, .ref 13]) (as := [.int a1, .int a2, .int a3]) (st := []) (k := 13) X zl_RX9_257 zm_X4_addShut (k_X4_addShut (d := d - 1) (by omega) gq8) (by omega) zb_13 (by rw [zk_13]; rfl) rfl rfl (Nat.le_of_ble_eq_true rfl) (Nat.le_refl _) rfl dX9_shut_67 ?_
            show J 70 [(0, .ref 0), (1, .int a1), (2, .int a2), (3, .int a3)] [.int q8.1] 117 zRF q8.2
            exact zv_retI X e rfl dX9_shut_70
          · replace e := zif e c7
            exact zv_pick X [0] rfl (k_X9_shut_L53 q hd X  _ e)
      · replace e := zif e c4
        exact zv_pick X [0] rfl (k_X9_shut_L26 q hd X  _ e)
  · replace e := zit e c2
    refine zv_aload_n X dX9_shut_11 rfl rfl ?_
    refine zv_iconst (v := (-1 : Int32)) X dX9_shut_12 zic_m1 ?_
    refine zb e (fun q9 gq9 e => ?_)
    refine zv_callV (stk := [.int (-1 : Int32), .ref 0]) (as := [.int (-1 : Int32)]) (st := []) (k := 0) X zl_RX9_108 zm_X9_refused (k_X9_refused (d := d - 1) (by omega) gq9) (by omega) zb_0 (by rw [zk_0]; rfl) rfl rfl (Nat.le_of_ble_eq_true rfl) (Nat.le_refl _) rfl dX9_shut_13 ?_
    show J 16 [(0, .ref 0), (1, .int a1), (2, .int a2), (3, .int a3)] [.int q9.1] 117 zRF q9.2
    exact zv_retI X e rfl dX9_shut_16
-- X10_shut
def s_X10_shut_L23  (h : zHp) : Option (Int32 × zHp) :=
  (s_X10_refuse (-4 : Int32) h).bind fun q1 =>
  some (q1.1, q1.2)
def s_X10_shut_L48  (h : zHp) : Option (Int32 × zHp) :=
  (s_X10_refuse (-6 : Int32) h).bind fun q1 =>
  some (q1.1, q1.2)
def s_X10_shut (a1 : Int32) (a2 : Int32) (a3 : Int32) (h : zHp) : Option (Int32 × zHp) :=
  (s_X10_isKitchen a1 h).bind fun q1 =>
  if q1.1 = 0 then
    (s_X10_refuse (-1 : Int32) q1.2).bind fun q15 =>
    some (q15.1, q15.2)
  else
    if a2 < 0 then
      s_X10_shut_L23 q1.2
    else
      if a2 ≤ a3 then
        if (1500 : Int32) < a3 then
          s_X10_shut_L48 q1.2
        else
          (zri q1.2 106 20 a1).bind fun v6 =>
          if v6 = (8 : Int32) then
            s_X10_shut_L48 q1.2
          else
            (zri q1.2 106 20 a1).bind fun v8 =>
            (zui q1.2 107 160 (((8 : Int32) * a1) + v8) a2).bind fun h9 =>
            (zri h9 106 20 a1).bind fun v10 =>
            (zui h9 108 160 (((8 : Int32) * a1) + v10) a3).bind fun h11 =>
            (zri h11 106 20 a1).bind fun v12 =>
            (zui h11 106 20 a1 (v12 + (1 : Int32))).bind fun h13 =>
            (zri h13 106 20 a1).bind fun v14 =>
            some (v14, h13)
      else
        s_X10_shut_L23 q1.2
set_option maxRecDepth 100000 in
set_option maxHeartbeats 4000000 in
theorem k_X10_shut_L23 {l : Launch} {D : va_G} {cy : Nat → ClassId} {S0 d : Nat} {J : zJ} (q : (Int32 × zHp)) (hd : 2 ≤ d) (X : zOK l D cy S0 d RX10 cX10_shut 4 (yX10_shut.name == "<init>") 117 117 (some .int) (zRT 117 zRF (some (.int q.1)) q.2) J) : ∀  (h : zHp), s_X10_shut_L23  h = some q → J 23 [(0, .ref 67)] [] 117 zRF h := by
  intro  h e
  unfold s_X10_shut_L23 at e
  refine zv_aload_n X dX10_shut_23 rfl rfl ?_
  refine zv_bipush (v := (-4 : Int32)) X dX10_shut_24 zbp_m4 ?_
  refine zb e (fun q1 gq1 e => ?_)
  refine zv_callV (stk := [.int (-4 : Int32), .ref 67]) (as := [.int (-4 : Int32)]) (st := []) (k := 67) X zl_RX10_175 zm_X10_refuse (k_X10_refuse (d := d - 1) (by omega) gq1) (by omega) zb_67 (by rw [zk_67]; rfl) rfl rfl (Nat.le_of_ble_eq_true rfl) (Nat.le_refl _) rfl dX10_shut_26 ?_
  show J 29 [(0, .ref 67)] [.int q1.1] 117 zRF q1.2
  exact zv_retI X e rfl dX10_shut_29
set_option maxRecDepth 100000 in
set_option maxHeartbeats 4000000 in
theorem k_X10_shut_L48 {l : Launch} {D : va_G} {cy : Nat → ClassId} {S0 d : Nat} {J : zJ} (q : (Int32 × zHp)) (hd : 2 ≤ d) (X : zOK l D cy S0 d RX10 cX10_shut 4 (yX10_shut.name == "<init>") 117 117 (some .int) (zRT 117 zRF (some (.int q.1)) q.2) J) : ∀  (h : zHp), s_X10_shut_L48  h = some q → J 48 [(0, .ref 67)] [] 117 zRF h := by
  intro  h e
  unfold s_X10_shut_L48 at e
  refine zv_aload_n X dX10_shut_48 rfl rfl ?_
  refine zv_bipush (v := (-6 : Int32)) X dX10_shut_49 zbp_m6 ?_
  refine zb e (fun q1 gq1 e => ?_)
  refine zv_callV (stk := [.int (-6 : Int32), .ref 67]) (as := [.int (-6 : Int32)]) (st := []) (k := 67) X zl_RX10_175 zm_X10_refuse (k_X10_refuse (d := d - 1) (by omega) gq1) (by omega) zb_67 (by rw [zk_67]; rfl) rfl rfl (Nat.le_of_ble_eq_true rfl) (Nat.le_refl _) rfl dX10_shut_51 ?_
  show J 54 [(0, .ref 67)] [.int q1.1] 117 zRF q1.2
  exact zv_retI X e rfl dX10_shut_54
set_option maxRecDepth 100000 in
set_option maxHeartbeats 4000000 in
theorem k_X10_shut {l : Launch} {D : va_G} {cy : Nat → ClassId} {S0 d : Nat} (hd : 2 ≤ d) {a1 : Int32} {a2 : Int32} {a3 : Int32} {h : zHp} {q : (Int32 × zHp)} (e : s_X10_shut a1 a2 a3 h = some q) : zCT l D cy S0 d yX10_shut cX10_shut 4 (some .int) [.ref 67, .int a1, .int a2, .int a3] 117 zRF h (some (.int q.1)) 117 zRF q.2 := by
  unfold s_X10_shut at e
  refine zCT_of RX10 rfl zm_X10_shut (Nat.le_refl _) (Nat.le_of_ble_eq_true rfl) (fun J X => ?_)
  show J 0 [(0, .ref 67), (1, .int a1), (2, .int a2), (3, .int a3)] [] 117 zRF h
  refine zv_aload_n X dX10_shut_0 rfl rfl ?_
  refine zv_iload_n X dX10_shut_1 rfl rfl ?_
  refine zb e (fun q1 gq1 e => ?_)
  refine zv_callV (stk := [.int a1, .ref 67]) (as := [.int a1]) (st := []) (k := 67) X zl_RX10_196 zm_X10_isKitchen (k_X10_isKitchen (d := d - 1) (by omega) gq1) (by omega) zb_67 (by rw [zk_67]; rfl) rfl rfl (Nat.le_of_ble_eq_true rfl) (Nat.le_refl _) rfl dX10_shut_2 ?_
  show J 5 [(0, .ref 67), (1, .int a1), (2, .int a2), (3, .int a3)] [.int q1.1] 117 zRF q1.2
  refine zv_if_ne (tgt := 14) X dX10_shut_5 (by decide) (fun c2 => ?_) (fun c2 => ?_)
  · replace e := zif e c2
    refine zv_iload_n X dX10_shut_14 rfl rfl ?_
    refine zv_if_lt (tgt := 23) X dX10_shut_15 (by decide) (fun c3 => ?_) (fun c3 => ?_)
    · replace e := zit e c3
      exact zv_pick X [0] rfl (k_X10_shut_L23 q hd X  _ e)
    · replace e := zif e c3
      refine zv_iload_n X dX10_shut_18 rfl rfl ?_
      refine zv_iload_n X dX10_shut_19 rfl rfl ?_
      refine zv_icmp_ge (tgt := 30) X dX10_shut_20 (by decide) (fun c4 => ?_) (fun c4 => ?_)
      · replace e := zit e c4
        refine zv_iload_n X dX10_shut_30 rfl rfl ?_
        refine zv_sipush (v := (1500 : Int32)) X dX10_shut_31 zsp_1500 ?_
        refine zv_icmp_gt (tgt := 48) X dX10_shut_34 (by decide) (fun c5 => ?_) (fun c5 => ?_)
        · replace e := zit e c5
          exact zv_pick X [0] rfl (k_X10_shut_L48 q hd X  _ e)
        · replace e := zif e c5
          refine zv_aload_n X dX10_shut_37 rfl rfl ?_
          refine zv_getR X zf_RX10_130 znt_a zk_67 zb_67 zr_67_48 dX10_shut_38 ?_
          refine zv_iload_n X dX10_shut_41 rfl rfl ?_
          refine zb e (fun v6 gv6 e => ?_)
          refine zv_iald X zk_106 zl_106 zb_106 dX10_shut_42 gv6 ?_
          refine zv_bipush (v := (8 : Int32)) X dX10_shut_43 zbp_8 ?_
          refine zv_icmp_ne (tgt := 55) X dX10_shut_45 (by decide) (fun c7 => ?_) (fun c7 => ?_)
          · replace e := zif e c7
            refine zv_aload_n X dX10_shut_55 rfl rfl ?_
            refine zv_getR X zf_RX10_133 znt_a zk_67 zb_67 zr_67_49 dX10_shut_56 ?_
            refine zv_bipush (v := (8 : Int32)) X dX10_shut_59 zbp_8 ?_
            refine zv_iload_n X dX10_shut_61 rfl rfl ?_
            refine zv_imul X dX10_shut_62 ?_
            refine zv_aload_n X dX10_shut_63 rfl rfl ?_
            refine zv_getR X zf_RX10_130 znt_a zk_67 zb_67 zr_67_48 dX10_shut_64 ?_
            refine zv_iload_n X dX10_shut_67 rfl rfl ?_
            refine zb e (fun v8 gv8 e => ?_)
            refine zv_iald X zk_106 zl_106 zb_106 dX10_shut_68 gv8 ?_
            refine zv_iadd X dX10_shut_69 ?_
            refine zv_iload_n X dX10_shut_70 rfl rfl ?_
            refine zb e (fun h9 gh9 e => ?_)
            refine zv_iast X zk_107 zl_107 zb_107 dX10_shut_71 gh9 ?_
            refine zv_aload_n X dX10_shut_72 rfl rfl ?_
            refine zv_getR X zf_RX10_136 znt_a zk_67 zb_67 zr_67_50 dX10_shut_73 ?_
            refine zv_bipush (v := (8 : Int32)) X dX10_shut_76 zbp_8 ?_
            refine zv_iload_n X dX10_shut_78 rfl rfl ?_
            refine zv_imul X dX10_shut_79 ?_
            refine zv_aload_n X dX10_shut_80 rfl rfl ?_
            refine zv_getR X zf_RX10_130 znt_a zk_67 zb_67 zr_67_48 dX10_shut_81 ?_
            refine zv_iload_n X dX10_shut_84 rfl rfl ?_
            refine zb e (fun v10 gv10 e => ?_)
            refine zv_iald X zk_106 zl_106 zb_106 dX10_shut_85 gv10 ?_
            refine zv_iadd X dX10_shut_86 ?_
            refine zv_iload_n X dX10_shut_87 rfl rfl ?_
            refine zb e (fun h11 gh11 e => ?_)
            refine zv_iast X zk_108 zl_108 zb_108 dX10_shut_88 gh11 ?_
            refine zv_aload_n X dX10_shut_89 rfl rfl ?_
            refine zv_getR X zf_RX10_130 znt_a zk_67 zb_67 zr_67_48 dX10_shut_90 ?_
            refine zv_iload_n X dX10_shut_93 rfl rfl ?_
            refine zv_dup2 X dX10_shut_94 ?_
            refine zb e (fun v12 gv12 e => ?_)
            refine zv_iald X zk_106 zl_106 zb_106 dX10_shut_95 gv12 ?_
            refine zv_iconst (v := (1 : Int32)) X dX10_shut_96 zic_1 ?_
            refine zv_iadd X dX10_shut_97 ?_
            refine zb e (fun h13 gh13 e => ?_)
            refine zv_iast X zk_106 zl_106 zb_106 dX10_shut_98 gh13 ?_
            refine zv_aload_n X dX10_shut_99 rfl rfl ?_
            refine zv_getR X zf_RX10_130 znt_a zk_67 zb_67 zr_67_48 dX10_shut_100 ?_
            refine zv_iload_n X dX10_shut_103 rfl rfl ?_
            refine zb e (fun v14 gv14 e => ?_)
            refine zv_iald X zk_106 zl_106 zb_106 dX10_shut_104 gv14 ?_
            exact zv_retI X e rfl dX10_shut_105
          · replace e := zit e c7
            exact zv_pick X [0] rfl (k_X10_shut_L48 q hd X  _ e)
      · replace e := zif e c4
        exact zv_pick X [0] rfl (k_X10_shut_L23 q hd X  _ e)
  · replace e := zit e c2
    refine zv_aload_n X dX10_shut_8 rfl rfl ?_
    refine zv_iconst (v := (-1 : Int32)) X dX10_shut_9 zic_m1 ?_
    refine zb e (fun q15 gq15 e => ?_)
    refine zv_callV (stk := [.int (-1 : Int32), .ref 67]) (as := [.int (-1 : Int32)]) (st := []) (k := 67) X zl_RX10_175 zm_X10_refuse (k_X10_refuse (d := d - 1) (by omega) gq15) (by omega) zb_67 (by rw [zk_67]; rfl) rfl rfl (Nat.le_of_ble_eq_true rfl) (Nat.le_refl _) rfl dX10_shut_10 ?_
    show J 13 [(0, .ref 67), (1, .int a1), (2, .int a2), (3, .int a3)] [.int q15.1] 117 zRF q15.2
    exact zv_retI X e rfl dX10_shut_13
-- X1_isFull
def s_X1_isFull_L14 (b0 : Int32) (h : zHp) : Option (Int32 × zHp) :=
  (zbo b0).bind fun u1 =>
  some (b0, h)
def s_X1_isFull  (h : zHp) : Option (Int32 × zHp) :=
  if (h.1 52 7) < (20 : Int32) then
    s_X1_isFull_L14 (0 : Int32) h
  else
    s_X1_isFull_L14 (1 : Int32) h
set_option maxRecDepth 100000 in
set_option maxHeartbeats 4000000 in
theorem k_X1_isFull_L14 {l : Launch} {D : va_G} {cy : Nat → ClassId} {S0 d : Nat} {J : zJ} (q : (Int32 × zHp)) (hd : 0 ≤ d) (X : zOK l D cy S0 d RX1 cX1_isFull 1 (yX1_isFull.name == "<init>") 117 117 (some .boolean) (zRT 117 zRF (some (.int q.1)) q.2) J) : ∀ (b0 : Int32) (h : zHp), s_X1_isFull_L14 b0 h = some q → J 14 [] [.int b0] 117 zRF h := by
  intro b0 h e
  unfold s_X1_isFull_L14 at e
  refine zb e (fun u gu e => ?_)
  exact zv_retZ X e rfl (zbo_ok gu) dX1_isFull_14
set_option maxRecDepth 100000 in
set_option maxHeartbeats 4000000 in
theorem k_X1_isFull {l : Launch} {D : va_G} {cy : Nat → ClassId} {S0 d : Nat} (hd : 0 ≤ d) {h : zHp} {q : (Int32 × zHp)} (e : s_X1_isFull  h = some q) : zCT l D cy S0 d yX1_isFull cX1_isFull 1 (some .boolean) [.ref 52] 117 zRF h (some (.int q.1)) 117 zRF q.2 := by
  unfold s_X1_isFull at e
  refine zCT_of RX1 rfl zm_X1_isFull (Nat.le_refl _) (Nat.le_of_ble_eq_true rfl) (fun J X => ?_)
  show J 0 [(0, .ref 52)] [] 117 zRF h
  refine zv_aload_n X dX1_isFull_0 rfl rfl ?_
  refine zv_getI X zf_RX1_34 zk_52 zb_52 dX1_isFull_1 ?_
  refine zv_bipush (v := (20 : Int32)) X dX1_isFull_4 zbp_20 ?_
  refine zv_icmp_lt (tgt := 13) X dX1_isFull_6 (by decide) (fun c1 => ?_) (fun c1 => ?_)
  · replace e := zit e c1
    refine zv_iconst (v := (0 : Int32)) X dX1_isFull_13 zic_0 ?_
    exact zv_pick X [] rfl (k_X1_isFull_L14 q hd X _ _ e)
  · replace e := zif e c1
    refine zv_iconst (v := (1 : Int32)) X dX1_isFull_9 zic_1 ?_
    refine zv_goto (tgt := 14) X dX1_isFull_10 (by decide) ?_
    exact zv_pick X [] rfl (k_X1_isFull_L14 q hd X _ _ e)
-- X1_add
def s_X1_add (a1 : Int32) (a2 : Int32) (a3 : Int32) (a4 : Int32) (h : zHp) : Option (Int32 × zHp) :=
  (zui h 53 20 (h.1 52 7) a1).bind fun h1 =>
  (zui h1 54 20 (h1.1 52 7) a2).bind fun h2 =>
  (zui h2 55 20 (h2.1 52 7) a3).bind fun h3 =>
  (zui h3 56 20 (h3.1 52 7) a4).bind fun h4 =>
  (some (h4.1 52 7)).bind fun v5 =>
  (some (v5 + (1 : Int32))).bind fun v6 =>
  (zpi h4 52 7 v6).bind fun h7 =>
  some (v5, h7)
set_option maxRecDepth 100000 in
set_option maxHeartbeats 4000000 in
theorem k_X1_add {l : Launch} {D : va_G} {cy : Nat → ClassId} {S0 d : Nat} (hd : 0 ≤ d) {a1 : Int32} {a2 : Int32} {a3 : Int32} {a4 : Int32} {h : zHp} {q : (Int32 × zHp)} (e : s_X1_add a1 a2 a3 a4 h = some q) : zCT l D cy S0 d yX1_add cX1_add 5 (some .int) [.ref 52, .int a1, .int a2, .int a3, .int a4] 117 zRF h (some (.int q.1)) 117 zRF q.2 := by
  unfold s_X1_add at e
  refine zCT_of RX1 rfl zm_X1_add (Nat.le_refl _) (Nat.le_of_ble_eq_true rfl) (fun J X => ?_)
  show J 0 [(0, .ref 52), (1, .int a1), (2, .int a2), (3, .int a3), (4, .int a4)] [] 117 zRF h
  refine zv_aload_n X dX1_add_0 rfl rfl ?_
  refine zv_getR X zf_RX1_9 znt_a zk_52 zb_52 zr_52_1 dX1_add_1 ?_
  refine zv_aload_n X dX1_add_4 rfl rfl ?_
  refine zv_getI X zf_RX1_34 zk_52 zb_52 dX1_add_5 ?_
  refine zv_iload_n X dX1_add_8 rfl rfl ?_
  refine zb e (fun h1 gh1 e => ?_)
  refine zv_iast X zk_53 zl_53 zb_53 dX1_add_9 gh1 ?_
  refine zv_aload_n X dX1_add_10 rfl rfl ?_
  refine zv_getR X zf_RX1_15 znt_a zk_52 zb_52 zr_52_2 dX1_add_11 ?_
  refine zv_aload_n X dX1_add_14 rfl rfl ?_
  refine zv_getI X zf_RX1_34 zk_52 zb_52 dX1_add_15 ?_
  refine zv_iload_n X dX1_add_18 rfl rfl ?_
  refine zb e (fun h2 gh2 e => ?_)
  refine zv_iast X zk_54 zl_54 zb_54 dX1_add_19 gh2 ?_
  refine zv_aload_n X dX1_add_20 rfl rfl ?_
  refine zv_getR X zf_RX1_18 znt_a zk_52 zb_52 zr_52_3 dX1_add_21 ?_
  refine zv_aload_n X dX1_add_24 rfl rfl ?_
  refine zv_getI X zf_RX1_34 zk_52 zb_52 dX1_add_25 ?_
  refine zv_iload_n X dX1_add_28 rfl rfl ?_
  refine zb e (fun h3 gh3 e => ?_)
  refine zv_iast X zk_55 zl_55 zb_55 dX1_add_29 gh3 ?_
  refine zv_aload_n X dX1_add_30 rfl rfl ?_
  refine zv_getR X zf_RX1_21 znt_a zk_52 zb_52 zr_52_4 dX1_add_31 ?_
  refine zv_aload_n X dX1_add_34 rfl rfl ?_
  refine zv_getI X zf_RX1_34 zk_52 zb_52 dX1_add_35 ?_
  refine zv_iload X dX1_add_38 rfl ?_
  refine zb e (fun h4 gh4 e => ?_)
  refine zv_iast X zk_56 zl_56 zb_56 dX1_add_40 gh4 ?_
  refine zv_aload_n X dX1_add_41 rfl rfl ?_
  refine zv_dup_r X dX1_add_42 ?_
  refine zv_getI X zf_RX1_34 zk_52 zb_52 dX1_add_43 ?_
  refine zb e (fun v5 gv5 e => ?_)
  refine zv_nmI X gv5 ?_
  refine zv_dup_x1 X dX1_add_46 ?_
  refine zv_iconst (v := (1 : Int32)) X dX1_add_47 zic_1 ?_
  refine zv_iadd X dX1_add_48 ?_
  refine zb e (fun v6 gv6 e => ?_)
  refine zv_nmI X gv6 ?_
  refine zb e (fun h7 gh7 e => ?_)
  refine zv_putI' X zf_RX1_34 zk_52 zb_52 dX1_add_49 gh7 ?_
  exact zv_retI X e rfl dX1_add_52
-- X9_complaint
def s_X9_complaint_L19  (h : zHp) : Option (Int32 × zHp) :=
  (s_X9_refused (-1 : Int32) h).bind fun q1 =>
  some (q1.1, q1.2)
def s_X9_complaint_L34  (h : zHp) : Option (Int32 × zHp) :=
  (s_X9_refused (-4 : Int32) h).bind fun q1 =>
  some (q1.1, q1.2)
def s_X9_complaint_L58  (h : zHp) : Option (Int32 × zHp) :=
  (s_X9_refused (-6 : Int32) h).bind fun q1 =>
  some (q1.1, q1.2)
def s_X9_complaint (a1 : Int32) (a2 : Int32) (a3 : Int32) (a4 : Int32) (h : zHp) : Option (Int32 × zHp) :=
  (s_X9_isWithin a1 (6 : Int32) h).bind fun q1 =>
  if q1.1 = 0 then
    s_X9_complaint_L19 q1.2
  else
    (s_X9_isWithin a4 (8 : Int32) q1.2).bind fun q3 =>
    if q3.1 = 0 then
      s_X9_complaint_L19 q3.2
    else
      if a2 < 0 then
        s_X9_complaint_L34 q3.2
      else
        if a2 ≤ a3 then
          if (1500 : Int32) < a3 then
            s_X9_complaint_L58 q3.2
          else
            (s_X1_isFull q3.2).bind fun q8 =>
            if q8.1 = 0 then
              (s_X1_add a1 a2 a3 a4 q8.2).bind fun q10 =>
              some (q10.1, q10.2)
            else
              s_X9_complaint_L58 q8.2
        else
          s_X9_complaint_L34 q3.2
set_option maxRecDepth 100000 in
set_option maxHeartbeats 4000000 in
theorem k_X9_complaint_L19 {l : Launch} {D : va_G} {cy : Nat → ClassId} {S0 d : Nat} {J : zJ} (q : (Int32 × zHp)) (hd : 1 ≤ d) (X : zOK l D cy S0 d RX9 cX9_complaint 5 (yX9_complaint.name == "<init>") 117 117 (some .int) (zRT 117 zRF (some (.int q.1)) q.2) J) : ∀  (h : zHp), s_X9_complaint_L19  h = some q → J 19 [(0, .ref 0)] [] 117 zRF h := by
  intro  h e
  unfold s_X9_complaint_L19 at e
  refine zv_aload_n X dX9_complaint_19 rfl rfl ?_
  refine zv_iconst (v := (-1 : Int32)) X dX9_complaint_20 zic_m1 ?_
  refine zb e (fun q1 gq1 e => ?_)
  refine zv_callV (stk := [.int (-1 : Int32), .ref 0]) (as := [.int (-1 : Int32)]) (st := []) (k := 0) X zl_RX9_108 zm_X9_refused (k_X9_refused (d := d - 1) (by omega) gq1) (by omega) zb_0 (by rw [zk_0]; rfl) rfl rfl (Nat.le_of_ble_eq_true rfl) (Nat.le_refl _) rfl dX9_complaint_21 ?_
  show J 24 [(0, .ref 0)] [.int q1.1] 117 zRF q1.2
  exact zv_retI X e rfl dX9_complaint_24
set_option maxRecDepth 100000 in
set_option maxHeartbeats 4000000 in
theorem k_X9_complaint_L34 {l : Launch} {D : va_G} {cy : Nat → ClassId} {S0 d : Nat} {J : zJ} (q : (Int32 × zHp)) (hd : 1 ≤ d) (X : zOK l D cy S0 d RX9 cX9_complaint 5 (yX9_complaint.name == "<init>") 117 117 (some .int) (zRT 117 zRF (some (.int q.1)) q.2) J) : ∀  (h : zHp), s_X9_complaint_L34  h = some q → J 34 [(0, .ref 0)] [] 117 zRF h := by
  intro  h e
  unfold s_X9_complaint_L34 at e
  refine zv_aload_n X dX9_complaint_34 rfl rfl ?_
  refine zv_bipush (v := (-4 : Int32)) X dX9_complaint_35 zbp_m4 ?_
  refine zb e (fun q1 gq1 e => ?_)
  refine zv_callV (stk := [.int (-4 : Int32), .ref 0]) (as := [.int (-4 : Int32)]) (st := []) (k := 0) X zl_RX9_108 zm_X9_refused (k_X9_refused (d := d - 1) (by omega) gq1) (by omega) zb_0 (by rw [zk_0]; rfl) rfl rfl (Nat.le_of_ble_eq_true rfl) (Nat.le_refl _) rfl dX9_complaint_37 ?_
  show J 40 [(0, .ref 0)] [.int q1.1] 117 zRF q1.2
  exact zv_retI X e rfl dX9_complaint_40
set_option maxRecDepth 100000 in
set_option maxHeartbeats 4000000 in
theorem k_X9_complaint_L58 {l : Launch} {D : va_G} {cy : Nat → ClassId} {S0 d : Nat} {J : zJ} (q : (Int32 × zHp)) (hd : 1 ≤ d) (X : zOK l D cy S0 d RX9 cX9_complaint 5 (yX9_complaint.name == "<init>") 117 117 (some .int) (zRT 117 zRF (some (.int q.1)) q.2) J) : ∀  (h : zHp), s_X9_complaint_L58  h = some q → J 58 [(0, .ref 0)] [] 117 zRF h := by
  intro  h e
  unfold s_X9_complaint_L58 at e
  refine zv_aload_n X dX9_complaint_58 rfl rfl ?_
  refine zv_bipush (v := (-6 : Int32)) X dX9_complaint_59 zbp_m6 ?_
  refine zb e (fun q1 gq1 e => ?_)
  refine zv_callV (stk := [.int (-6 : Int32), .ref 0]) (as := [.int (-6 : Int32)]) (st := []) (k := 0) X zl_RX9_108 zm_X9_refused (k_X9_refused (d := d - 1) (by omega) gq1) (by omega) zb_0 (by rw [zk_0]; rfl) rfl rfl (Nat.le_of_ble_eq_true rfl) (Nat.le_refl _) rfl dX9_complaint_61 ?_
  show J 64 [(0, .ref 0)] [.int q1.1] 117 zRF q1.2
  exact zv_retI X e rfl dX9_complaint_64
set_option maxRecDepth 100000 in
set_option maxHeartbeats 4000000 in
theorem k_X9_complaint {l : Launch} {D : va_G} {cy : Nat → ClassId} {S0 d : Nat} (hd : 1 ≤ d) {a1 : Int32} {a2 : Int32} {a3 : Int32} {a4 : Int32} {h : zHp} {q : (Int32 × zHp)} (e : s_X9_complaint a1 a2 a3 a4 h = some q) : zCT l D cy S0 d yX9_complaint cX9_complaint 5 (some .int) [.ref 0, .int a1, .int a2, .int a3, .int a4] 117 zRF h (some (.int q.1)) 117 zRF q.2 := by
  unfold s_X9_complaint at e
  refine zCT_of RX9 rfl zm_X9_complaint (Nat.le_refl _) (Nat.le_of_ble_eq_true rfl) (fun J X => ?_)
  show J 0 [(0, .ref 0), (1, .int a1), (2, .int a2), (3, .int a3), (4, .int a4)] [] 117 zRF h
  refine zv_iload_n X dX9_complaint_0 rfl rfl ?_
  refine zv_bipush (v := (6 : Int32)) X dX9_complaint_1 zbp_6 ?_
  refine zb e (fun q1 gq1 e => ?_)
  refine zv_callS (stk := [.int (6 : Int32), .int a1]) (as := [.int a1, .int (6 : Int32)]) (st := []) X zl_RX9_112 zm_X9_isWithin (k_X9_isWithin (d := d - 1) (by omega) gq1) (by omega) rfl (Nat.le_of_ble_eq_true rfl) (Nat.le_refl _) rfl dX9_complaint_3 ?_
  show J 6 [(0, .ref 0), (1, .int a1), (2, .int a2), (3, .int a3), (4, .int a4)] [.int q1.1] 117 zRF q1.2
  refine zv_if_eq (tgt := 19) X dX9_complaint_6 (by decide) (fun c2 => ?_) (fun c2 => ?_)
  · replace e := zit e c2
    exact zv_pick X [0] rfl (k_X9_complaint_L19 q hd X  _ e)
  · replace e := zif e c2
    refine zv_iload X dX9_complaint_9 rfl ?_
    refine zv_bipush (v := (8 : Int32)) X dX9_complaint_11 zbp_8 ?_
    refine zb e (fun q3 gq3 e => ?_)
    refine zv_callS (stk := [.int (8 : Int32), .int a4]) (as := [.int a4, .int (8 : Int32)]) (st := []) X zl_RX9_112 zm_X9_isWithin (k_X9_isWithin (d := d - 1) (by omega) gq3) (by omega) rfl (Nat.le_of_ble_eq_true rfl) (Nat.le_refl _) rfl dX9_complaint_13 ?_
    show J 16 [(0, .ref 0), (1, .int a1), (2, .int a2), (3, .int a3), (4, .int a4)] [.int q3.1] 117 zRF q3.2
    refine zv_if_ne (tgt := 25) X dX9_complaint_16 (by decide) (fun c4 => ?_) (fun c4 => ?_)
    · replace e := zif e c4
      refine zv_iload_n X dX9_complaint_25 rfl rfl ?_
      refine zv_if_lt (tgt := 34) X dX9_complaint_26 (by decide) (fun c5 => ?_) (fun c5 => ?_)
      · replace e := zit e c5
        exact zv_pick X [0] rfl (k_X9_complaint_L34 q hd X  _ e)
      · replace e := zif e c5
        refine zv_iload_n X dX9_complaint_29 rfl rfl ?_
        refine zv_iload_n X dX9_complaint_30 rfl rfl ?_
        refine zv_icmp_ge (tgt := 41) X dX9_complaint_31 (by decide) (fun c6 => ?_) (fun c6 => ?_)
        · replace e := zit e c6
          refine zv_iload_n X dX9_complaint_41 rfl rfl ?_
          refine zv_sipush (v := (1500 : Int32)) X dX9_complaint_42 zsp_1500 ?_
          refine zv_icmp_gt (tgt := 58) X dX9_complaint_45 (by decide) (fun c7 => ?_) (fun c7 => ?_)
          · replace e := zit e c7
            exact zv_pick X [0] rfl (k_X9_complaint_L58 q hd X  _ e)
          · replace e := zif e c7
            refine zv_aload_n X dX9_complaint_48 rfl rfl ?_
            refine zv_getR X zf_RX9_77 znt_o zk_0 zb_0 zr_0_11 dX9_complaint_49 ?_
            refine zb e (fun q8 gq8 e => ?_)
            refine zv_callV (stk := [.ref 52]) (as := []) (st := []) (k := 52) X zl_RX9_260 zm_X1_isFull (k_X1_isFull (d := d - 1) (by omega) gq8) (by omega) zb_52 (by rw [zk_52]; rfl) rfl rfl (Nat.le_of_ble_eq_true rfl) (Nat.le_refl _) rfl dX9_complaint_52 ?_
            show J 55 [(0, .ref 0), (1, .int a1), (2, .int a2), (3, .int a3), (4, .int a4)] [.int q8.1] 117 zRF q8.2
            refine zv_if_eq (tgt := 65) X dX9_complaint_55 (by decide) (fun c9 => ?_) (fun c9 => ?_)
            · replace e := zit e c9
              refine zv_aload_n X dX9_complaint_65 rfl rfl ?_
              refine zv_getR X zf_RX9_77 znt_o zk_0 zb_0 zr_0_11 dX9_complaint_66 ?_
              refine zv_iload_n X dX9_complaint_69 rfl rfl ?_
              refine zv_iload_n X dX9_complaint_70 rfl rfl ?_
              refine zv_iload_n X dX9_complaint_71 rfl rfl ?_
              refine zv_iload X dX9_complaint_72 rfl ?_
              refine zb e (fun q10 gq10 e => ?_)
              refine zv_callV (stk := [.int a4, .int a3, .int a2, .int a1, .ref 52]) (as := [.int a1, .int a2, .int a3, .int a4]) (st := []) (k := 52) X zl_RX9_261 zm_X1_add (k_X1_add (d := d - 1) (by omega) gq10) (by omega) zb_52 (by rw [zk_52]; rfl) rfl rfl (Nat.le_of_ble_eq_true rfl) (Nat.le_refl _) rfl dX9_complaint_74 ?_
              show J 77 [(0, .ref 0), (1, .int a1), (2, .int a2), (3, .int a3), (4, .int a4)] [.int q10.1] 117 zRF q10.2
              exact zv_retI X e rfl dX9_complaint_77
            · replace e := zif e c9
              exact zv_pick X [0] rfl (k_X9_complaint_L58 q hd X  _ e)
        · replace e := zif e c6
          exact zv_pick X [0] rfl (k_X9_complaint_L34 q hd X  _ e)
    · replace e := zit e c4
      exact zv_pick X [0] rfl (k_X9_complaint_L19 q hd X  _ e)
-- X10_complaint
def s_X10_complaint_L20  (h : zHp) : Option (Int32 × zHp) :=
  (s_X10_refuse (-1 : Int32) h).bind fun q1 =>
  some (q1.1, q1.2)
def s_X10_complaint_L35  (h : zHp) : Option (Int32 × zHp) :=
  (s_X10_refuse (-4 : Int32) h).bind fun q1 =>
  some (q1.1, q1.2)
def s_X10_complaint_L58  (h : zHp) : Option (Int32 × zHp) :=
  (s_X10_refuse (-6 : Int32) h).bind fun q1 =>
  some (q1.1, q1.2)
def s_X10_complaint (a1 : Int32) (a2 : Int32) (a3 : Int32) (a4 : Int32) (h : zHp) : Option (Int32 × zHp) :=
  (s_X10_in a1 (0 : Int32) (5 : Int32) h).bind fun q1 =>
  if q1.1 = 0 then
    s_X10_complaint_L20 q1.2
  else
    (s_X10_in a4 (0 : Int32) (7 : Int32) q1.2).bind fun q3 =>
    if q3.1 = 0 then
      s_X10_complaint_L20 q3.2
    else
      if a2 < 0 then
        s_X10_complaint_L35 q3.2
      else
        if a2 ≤ a3 then
          if (1500 : Int32) < a3 then
            s_X10_complaint_L58 q3.2
          else
            if (q3.2.1 67 51) = (20 : Int32) then
              s_X10_complaint_L58 q3.2
            else
              (zui q3.2 109 20 (q3.2.1 67 51) a1).bind fun h9 =>
              (zui h9 110 20 (h9.1 67 51) a2).bind fun h10 =>
              (zui h10 111 20 (h10.1 67 51) a3).bind fun h11 =>
              (zui h11 112 20 (h11.1 67 51) a4).bind fun h12 =>
              (some ((h12.1 67 51) + (1 : Int32))).bind fun v13 =>
              (zpi h12 67 51 v13).bind fun h14 =>
              some ((h14.1 67 51) - (1 : Int32), h14)
        else
          s_X10_complaint_L35 q3.2
set_option maxRecDepth 100000 in
set_option maxHeartbeats 4000000 in
theorem k_X10_complaint_L20 {l : Launch} {D : va_G} {cy : Nat → ClassId} {S0 d : Nat} {J : zJ} (q : (Int32 × zHp)) (hd : 1 ≤ d) (X : zOK l D cy S0 d RX10 cX10_complaint 5 (yX10_complaint.name == "<init>") 117 117 (some .int) (zRT 117 zRF (some (.int q.1)) q.2) J) : ∀  (h : zHp), s_X10_complaint_L20  h = some q → J 20 [(0, .ref 67)] [] 117 zRF h := by
  intro  h e
  unfold s_X10_complaint_L20 at e
  refine zv_aload_n X dX10_complaint_20 rfl rfl ?_
  refine zv_iconst (v := (-1 : Int32)) X dX10_complaint_21 zic_m1 ?_
  refine zb e (fun q1 gq1 e => ?_)
  refine zv_callV (stk := [.int (-1 : Int32), .ref 67]) (as := [.int (-1 : Int32)]) (st := []) (k := 67) X zl_RX10_175 zm_X10_refuse (k_X10_refuse (d := d - 1) (by omega) gq1) (by omega) zb_67 (by rw [zk_67]; rfl) rfl rfl (Nat.le_of_ble_eq_true rfl) (Nat.le_refl _) rfl dX10_complaint_22 ?_
  show J 25 [(0, .ref 67)] [.int q1.1] 117 zRF q1.2
  exact zv_retI X e rfl dX10_complaint_25
set_option maxRecDepth 100000 in
set_option maxHeartbeats 4000000 in
theorem k_X10_complaint_L35 {l : Launch} {D : va_G} {cy : Nat → ClassId} {S0 d : Nat} {J : zJ} (q : (Int32 × zHp)) (hd : 1 ≤ d) (X : zOK l D cy S0 d RX10 cX10_complaint 5 (yX10_complaint.name == "<init>") 117 117 (some .int) (zRT 117 zRF (some (.int q.1)) q.2) J) : ∀  (h : zHp), s_X10_complaint_L35  h = some q → J 35 [(0, .ref 67)] [] 117 zRF h := by
  intro  h e
  unfold s_X10_complaint_L35 at e
  refine zv_aload_n X dX10_complaint_35 rfl rfl ?_
  refine zv_bipush (v := (-4 : Int32)) X dX10_complaint_36 zbp_m4 ?_
  refine zb e (fun q1 gq1 e => ?_)
  refine zv_callV (stk := [.int (-4 : Int32), .ref 67]) (as := [.int (-4 : Int32)]) (st := []) (k := 67) X zl_RX10_175 zm_X10_refuse (k_X10_refuse (d := d - 1) (by omega) gq1) (by omega) zb_67 (by rw [zk_67]; rfl) rfl rfl (Nat.le_of_ble_eq_true rfl) (Nat.le_refl _) rfl dX10_complaint_38 ?_
  show J 41 [(0, .ref 67)] [.int q1.1] 117 zRF q1.2
  exact zv_retI X e rfl dX10_complaint_41
set_option maxRecDepth 100000 in
set_option maxHeartbeats 4000000 in
theorem k_X10_complaint_L58 {l : Launch} {D : va_G} {cy : Nat → ClassId} {S0 d : Nat} {J : zJ} (q : (Int32 × zHp)) (hd : 1 ≤ d) (X : zOK l D cy S0 d RX10 cX10_complaint 5 (yX10_complaint.name == "<init>") 117 117 (some .int) (zRT 117 zRF (some (.int q.1)) q.2) J) : ∀  (h : zHp), s_X10_complaint_L58  h = some q → J 58 [(0, .ref 67)] [] 117 zRF h := by
  intro  h e
  unfold s_X10_complaint_L58 at e
  refine zv_aload_n X dX10_complaint_58 rfl rfl ?_
  refine zv_bipush (v := (-6 : Int32)) X dX10_complaint_59 zbp_m6 ?_
  refine zb e (fun q1 gq1 e => ?_)
  refine zv_callV (stk := [.int (-6 : Int32), .ref 67]) (as := [.int (-6 : Int32)]) (st := []) (k := 67) X zl_RX10_175 zm_X10_refuse (k_X10_refuse (d := d - 1) (by omega) gq1) (by omega) zb_67 (by rw [zk_67]; rfl) rfl rfl (Nat.le_of_ble_eq_true rfl) (Nat.le_refl _) rfl dX10_complaint_61 ?_
  show J 64 [(0, .ref 67)] [.int q1.1] 117 zRF q1.2
  exact zv_retI X e rfl dX10_complaint_64
set_option maxRecDepth 100000 in
set_option maxHeartbeats 4000000 in
theorem k_X10_complaint {l : Launch} {D : va_G} {cy : Nat → ClassId} {S0 d : Nat} (hd : 1 ≤ d) {a1 : Int32} {a2 : Int32} {a3 : Int32} {a4 : Int32} {h : zHp} {q : (Int32 × zHp)} (e : s_X10_complaint a1 a2 a3 a4 h = some q) : zCT l D cy S0 d yX10_complaint cX10_complaint 5 (some .int) [.ref 67, .int a1, .int a2, .int a3, .int a4] 117 zRF h (some (.int q.1)) 117 zRF q.2 := by
  unfold s_X10_complaint at e
  refine zCT_of RX10 rfl zm_X10_complaint (Nat.le_refl _) (Nat.le_of_ble_eq_true rfl) (fun J X => ?_)
  show J 0 [(0, .ref 67), (1, .int a1), (2, .int a2), (3, .int a3), (4, .int a4)] [] 117 zRF h
  refine zv_iload_n X dX10_complaint_0 rfl rfl ?_
  refine zv_iconst (v := (0 : Int32)) X dX10_complaint_1 zic_0 ?_
  refine zv_iconst (v := (5 : Int32)) X dX10_complaint_2 zic_5 ?_
  refine zb e (fun q1 gq1 e => ?_)
  refine zv_callS (stk := [.int (5 : Int32), .int (0 : Int32), .int a1]) (as := [.int a1, .int (0 : Int32), .int (5 : Int32)]) (st := []) X zl_RX10_168 zm_X10_in (k_X10_in (d := d - 1) (by omega) gq1) (by omega) rfl (Nat.le_of_ble_eq_true rfl) (Nat.le_refl _) rfl dX10_complaint_3 ?_
  show J 6 [(0, .ref 67), (1, .int a1), (2, .int a2), (3, .int a3), (4, .int a4)] [.int q1.1] 117 zRF q1.2
  refine zv_if_eq (tgt := 20) X dX10_complaint_6 (by decide) (fun c2 => ?_) (fun c2 => ?_)
  · replace e := zit e c2
    exact zv_pick X [0] rfl (k_X10_complaint_L20 q hd X  _ e)
  · replace e := zif e c2
    refine zv_iload X dX10_complaint_9 rfl ?_
    refine zv_iconst (v := (0 : Int32)) X dX10_complaint_11 zic_0 ?_
    refine zv_bipush (v := (7 : Int32)) X dX10_complaint_12 zbp_7 ?_
    refine zb e (fun q3 gq3 e => ?_)
    refine zv_callS (stk := [.int (7 : Int32), .int (0 : Int32), .int a4]) (as := [.int a4, .int (0 : Int32), .int (7 : Int32)]) (st := []) X zl_RX10_168 zm_X10_in (k_X10_in (d := d - 1) (by omega) gq3) (by omega) rfl (Nat.le_of_ble_eq_true rfl) (Nat.le_refl _) rfl dX10_complaint_14 ?_
    show J 17 [(0, .ref 67), (1, .int a1), (2, .int a2), (3, .int a3), (4, .int a4)] [.int q3.1] 117 zRF q3.2
    refine zv_if_ne (tgt := 26) X dX10_complaint_17 (by decide) (fun c4 => ?_) (fun c4 => ?_)
    · replace e := zif e c4
      refine zv_iload_n X dX10_complaint_26 rfl rfl ?_
      refine zv_if_lt (tgt := 35) X dX10_complaint_27 (by decide) (fun c5 => ?_) (fun c5 => ?_)
      · replace e := zit e c5
        exact zv_pick X [0] rfl (k_X10_complaint_L35 q hd X  _ e)
      · replace e := zif e c5
        refine zv_iload_n X dX10_complaint_30 rfl rfl ?_
        refine zv_iload_n X dX10_complaint_31 rfl rfl ?_
        refine zv_icmp_ge (tgt := 42) X dX10_complaint_32 (by decide) (fun c6 => ?_) (fun c6 => ?_)
        · replace e := zit e c6
          refine zv_iload_n X dX10_complaint_42 rfl rfl ?_
          refine zv_sipush (v := (1500 : Int32)) X dX10_complaint_43 zsp_1500 ?_
          refine zv_icmp_gt (tgt := 58) X dX10_complaint_46 (by decide) (fun c7 => ?_) (fun c7 => ?_)
          · replace e := zit e c7
            exact zv_pick X [0] rfl (k_X10_complaint_L58 q hd X  _ e)
          · replace e := zif e c7
            refine zv_aload_n X dX10_complaint_49 rfl rfl ?_
            refine zv_getI X zf_RX10_295 zk_67 zb_67 dX10_complaint_50 ?_
            refine zv_bipush (v := (20 : Int32)) X dX10_complaint_53 zbp_20 ?_
            refine zv_icmp_ne (tgt := 65) X dX10_complaint_55 (by decide) (fun c8 => ?_) (fun c8 => ?_)
            · replace e := zif e c8
              refine zv_aload_n X dX10_complaint_65 rfl rfl ?_
              refine zv_getR X zf_RX10_139 znt_a zk_67 zb_67 zr_67_52 dX10_complaint_66 ?_
              refine zv_aload_n X dX10_complaint_69 rfl rfl ?_
              refine zv_getI X zf_RX10_295 zk_67 zb_67 dX10_complaint_70 ?_
              refine zv_iload_n X dX10_complaint_73 rfl rfl ?_
              refine zb e (fun h9 gh9 e => ?_)
              refine zv_iast X zk_109 zl_109 zb_109 dX10_complaint_74 gh9 ?_
              refine zv_aload_n X dX10_complaint_75 rfl rfl ?_
              refine zv_getR X zf_RX10_142 znt_a zk_67 zb_67 zr_67_53 dX10_complaint_76 ?_
              refine zv_aload_n X dX10_complaint_79 rfl rfl ?_
              refine zv_getI X zf_RX10_295 zk_67 zb_67 dX10_complaint_80 ?_
              refine zv_iload_n X dX10_complaint_83 rfl rfl ?_
              refine zb e (fun h10 gh10 e => ?_)
              refine zv_iast X zk_110 zl_110 zb_110 dX10_complaint_84 gh10 ?_
              refine zv_aload_n X dX10_complaint_85 rfl rfl ?_
              refine zv_getR X zf_RX10_145 znt_a zk_67 zb_67 zr_67_54 dX10_complaint_86 ?_
              refine zv_aload_n X dX10_complaint_89 rfl rfl ?_
              refine zv_getI X zf_RX10_295 zk_67 zb_67 dX10_complaint_90 ?_
              refine zv_iload_n X dX10_complaint_93 rfl rfl ?_
              refine zb e (fun h11 gh11 e => ?_)
              refine zv_iast X zk_111 zl_111 zb_111 dX10_complaint_94 gh11 ?_
              refine zv_aload_n X dX10_complaint_95 rfl rfl ?_
              refine zv_getR X zf_RX10_148 znt_a zk_67 zb_67 zr_67_55 dX10_complaint_96 ?_
              refine zv_aload_n X dX10_complaint_99 rfl rfl ?_
              refine zv_getI X zf_RX10_295 zk_67 zb_67 dX10_complaint_100 ?_
              refine zv_iload X dX10_complaint_103 rfl ?_
              refine zb e (fun h12 gh12 e => ?_)
              refine zv_iast X zk_112 zl_112 zb_112 dX10_complaint_105 gh12 ?_
              refine zv_aload_n X dX10_complaint_106 rfl rfl ?_
              refine zv_dup_r X dX10_complaint_107 ?_
              refine zv_getI X zf_RX10_295 zk_67 zb_67 dX10_complaint_108 ?_
              refine zv_iconst (v := (1 : Int32)) X dX10_complaint_111 zic_1 ?_
              refine zv_iadd X dX10_complaint_112 ?_
              refine zb e (fun v13 gv13 e => ?_)
              refine zv_nmI X gv13 ?_
              refine zb e (fun h14 gh14 e => ?_)
              refine zv_putI' X zf_RX10_295 zk_67 zb_67 dX10_complaint_113 gh14 ?_
              refine zv_aload_n X dX10_complaint_116 rfl rfl ?_
              refine zv_getI X zf_RX10_295 zk_67 zb_67 dX10_complaint_117 ?_
              refine zv_iconst (v := (1 : Int32)) X dX10_complaint_120 zic_1 ?_
              refine zv_isub X dX10_complaint_121 ?_
              exact zv_retI X e rfl dX10_complaint_122
            · replace e := zit e c8
              exact zv_pick X [0] rfl (k_X10_complaint_L58 q hd X  _ e)
        · replace e := zif e c6
          exact zv_pick X [0] rfl (k_X10_complaint_L35 q hd X  _ e)
    · replace e := zit e c4
      exact zv_pick X [0] rfl (k_X10_complaint_L20 q hd X  _ e)
-- X1_has
def s_X1_has_L17 (b0 : Int32) (h : zHp) : Option (Int32 × zHp) :=
  (zbo b0).bind fun u1 =>
  some (b0, h)
def s_X1_has_L16  (h : zHp) : Option (Int32 × zHp) :=
  s_X1_has_L17 (0 : Int32) h
def s_X1_has (a1 : Int32) (h : zHp) : Option (Int32 × zHp) :=
  if a1 < 0 then
    s_X1_has_L16 h
  else
    if (h.1 52 7) ≤ a1 then
      s_X1_has_L16 h
    else
      s_X1_has_L17 (1 : Int32) h
set_option maxRecDepth 100000 in
set_option maxHeartbeats 4000000 in
theorem k_X1_has_L17 {l : Launch} {D : va_G} {cy : Nat → ClassId} {S0 d : Nat} {J : zJ} (q : (Int32 × zHp)) (hd : 0 ≤ d) (X : zOK l D cy S0 d RX1 cX1_has 2 (yX1_has.name == "<init>") 117 117 (some .boolean) (zRT 117 zRF (some (.int q.1)) q.2) J) : ∀ (b0 : Int32) (h : zHp), s_X1_has_L17 b0 h = some q → J 17 [] [.int b0] 117 zRF h := by
  intro b0 h e
  unfold s_X1_has_L17 at e
  refine zb e (fun u gu e => ?_)
  exact zv_retZ X e rfl (zbo_ok gu) dX1_has_17
set_option maxRecDepth 100000 in
set_option maxHeartbeats 4000000 in
theorem k_X1_has_L16 {l : Launch} {D : va_G} {cy : Nat → ClassId} {S0 d : Nat} {J : zJ} (q : (Int32 × zHp)) (hd : 0 ≤ d) (X : zOK l D cy S0 d RX1 cX1_has 2 (yX1_has.name == "<init>") 117 117 (some .boolean) (zRT 117 zRF (some (.int q.1)) q.2) J) : ∀  (h : zHp), s_X1_has_L16  h = some q → J 16 [] [] 117 zRF h := by
  intro  h e
  unfold s_X1_has_L16 at e
  refine zv_iconst (v := (0 : Int32)) X dX1_has_16 zic_0 ?_
  exact k_X1_has_L17 q hd X _ _ e
set_option maxRecDepth 100000 in
set_option maxHeartbeats 4000000 in
theorem k_X1_has {l : Launch} {D : va_G} {cy : Nat → ClassId} {S0 d : Nat} (hd : 0 ≤ d) {a1 : Int32} {h : zHp} {q : (Int32 × zHp)} (e : s_X1_has a1 h = some q) : zCT l D cy S0 d yX1_has cX1_has 2 (some .boolean) [.ref 52, .int a1] 117 zRF h (some (.int q.1)) 117 zRF q.2 := by
  unfold s_X1_has at e
  refine zCT_of RX1 rfl zm_X1_has (Nat.le_refl _) (Nat.le_of_ble_eq_true rfl) (fun J X => ?_)
  show J 0 [(0, .ref 52), (1, .int a1)] [] 117 zRF h
  refine zv_iload_n X dX1_has_0 rfl rfl ?_
  refine zv_if_lt (tgt := 16) X dX1_has_1 (by decide) (fun c1 => ?_) (fun c1 => ?_)
  · replace e := zit e c1
    exact zv_pick X [] rfl (k_X1_has_L16 q hd X  _ e)
  · replace e := zif e c1
    refine zv_iload_n X dX1_has_4 rfl rfl ?_
    refine zv_aload_n X dX1_has_5 rfl rfl ?_
    refine zv_getI X zf_RX1_34 zk_52 zb_52 dX1_has_6 ?_
    refine zv_icmp_ge (tgt := 16) X dX1_has_9 (by decide) (fun c2 => ?_) (fun c2 => ?_)
    · replace e := zit e c2
      exact zv_pick X [] rfl (k_X1_has_L16 q hd X  _ e)
    · replace e := zif e c2
      refine zv_iconst (v := (1 : Int32)) X dX1_has_12 zic_1 ?_
      refine zv_goto (tgt := 17) X dX1_has_13 (by decide) ?_
      exact zv_pick X [] rfl (k_X1_has_L17 q hd X _ _ e)
-- X4_isMeant
def s_X4_isMeant_L28 (b0 : Int32) (h : zHp) : Option (Int32 × zHp) :=
  (zbo b0).bind fun u1 =>
  some (b0, h)
def s_X4_isMeant_L27  (h : zHp) : Option (Int32 × zHp) :=
  s_X4_isMeant_L28 (0 : Int32) h
def s_X4_isMeant (a1 : Int32) (a2 : Int32) (a3 : Int32) (h : zHp) : Option (Int32 × zHp) :=
  (zri h 15 20 a1).bind fun v1 =>
  if v1 = a2 then
    (zri h 18 20 a1).bind fun v3 =>
    if ((v3 >>> (a3 &&& 31)) &&& (1 : Int32)) = 0 then
      s_X4_isMeant_L27 h
    else
      s_X4_isMeant_L28 (1 : Int32) h
  else
    s_X4_isMeant_L27 h
set_option maxRecDepth 100000 in
set_option maxHeartbeats 4000000 in
theorem k_X4_isMeant_L28 {l : Launch} {D : va_G} {cy : Nat → ClassId} {S0 d : Nat} {J : zJ} (q : (Int32 × zHp)) (hd : 0 ≤ d) (X : zOK l D cy S0 d RX4 cX4_isMeant 4 (yX4_isMeant.name == "<init>") 117 117 (some .boolean) (zRT 117 zRF (some (.int q.1)) q.2) J) : ∀ (b0 : Int32) (h : zHp), s_X4_isMeant_L28 b0 h = some q → J 28 [] [.int b0] 117 zRF h := by
  intro b0 h e
  unfold s_X4_isMeant_L28 at e
  refine zb e (fun u gu e => ?_)
  exact zv_retZ X e rfl (zbo_ok gu) dX4_isMeant_28
set_option maxRecDepth 100000 in
set_option maxHeartbeats 4000000 in
theorem k_X4_isMeant_L27 {l : Launch} {D : va_G} {cy : Nat → ClassId} {S0 d : Nat} {J : zJ} (q : (Int32 × zHp)) (hd : 0 ≤ d) (X : zOK l D cy S0 d RX4 cX4_isMeant 4 (yX4_isMeant.name == "<init>") 117 117 (some .boolean) (zRT 117 zRF (some (.int q.1)) q.2) J) : ∀  (h : zHp), s_X4_isMeant_L27  h = some q → J 27 [] [] 117 zRF h := by
  intro  h e
  unfold s_X4_isMeant_L27 at e
  refine zv_iconst (v := (0 : Int32)) X dX4_isMeant_27 zic_0 ?_
  exact k_X4_isMeant_L28 q hd X _ _ e
set_option maxRecDepth 100000 in
set_option maxHeartbeats 4000000 in
theorem k_X4_isMeant {l : Launch} {D : va_G} {cy : Nat → ClassId} {S0 d : Nat} (hd : 0 ≤ d) {a1 : Int32} {a2 : Int32} {a3 : Int32} {h : zHp} {q : (Int32 × zHp)} (e : s_X4_isMeant a1 a2 a3 h = some q) : zCT l D cy S0 d yX4_isMeant cX4_isMeant 4 (some .boolean) [.ref 13, .int a1, .int a2, .int a3] 117 zRF h (some (.int q.1)) 117 zRF q.2 := by
  unfold s_X4_isMeant at e
  refine zCT_of RX4 rfl zm_X4_isMeant (Nat.le_refl _) (Nat.le_of_ble_eq_true rfl) (fun J X => ?_)
  show J 0 [(0, .ref 13), (1, .int a1), (2, .int a2), (3, .int a3)] [] 117 zRF h
  refine zv_aload_n X dX4_isMeant_0 rfl rfl ?_
  refine zv_getR X zf_RX4_15 znt_a zk_13 zb_13 zr_13_1 dX4_isMeant_1 ?_
  refine zv_iload_n X dX4_isMeant_4 rfl rfl ?_
  refine zb e (fun v1 gv1 e => ?_)
  refine zv_iald X zk_15 zl_15 zb_15 dX4_isMeant_5 gv1 ?_
  refine zv_iload_n X dX4_isMeant_6 rfl rfl ?_
  refine zv_icmp_ne (tgt := 27) X dX4_isMeant_7 (by decide) (fun c2 => ?_) (fun c2 => ?_)
  · replace e := zif e c2
    exact zv_pick X [] rfl (k_X4_isMeant_L27 q hd X  _ e)
  · replace e := zit e c2
    refine zv_aload_n X dX4_isMeant_10 rfl rfl ?_
    refine zv_getR X zf_RX4_24 znt_a zk_13 zb_13 zr_13_4 dX4_isMeant_11 ?_
    refine zv_iload_n X dX4_isMeant_14 rfl rfl ?_
    refine zb e (fun v3 gv3 e => ?_)
    refine zv_iald X zk_18 zl_18 zb_18 dX4_isMeant_15 gv3 ?_
    refine zv_iload_n X dX4_isMeant_16 rfl rfl ?_
    refine zv_ishr X dX4_isMeant_17 ?_
    refine zv_iconst (v := (1 : Int32)) X dX4_isMeant_18 zic_1 ?_
    refine zv_iand X dX4_isMeant_19 ?_
    refine zv_if_eq (tgt := 27) X dX4_isMeant_20 (by decide) (fun c4 => ?_) (fun c4 => ?_)
    · replace e := zit e c4
      exact zv_pick X [] rfl (k_X4_isMeant_L27 q hd X  _ e)
    · replace e := zif e c4
      refine zv_iconst (v := (1 : Int32)) X dX4_isMeant_23 zic_1 ?_
      refine zv_goto (tgt := 28) X dX4_isMeant_24 (by decide) ?_
      exact zv_pick X [] rfl (k_X4_isMeant_L28 q hd X _ _ e)
-- X4_shutPast
def s_X4_shutPast_L58 (k12 : Int32 → Int32 → Int32 → Int32 → Int32 → zHp → Option (Int32 × zHp)) (a1 : Int32) (a2 : Int32) (a3 : Int32) (a4 : Int32) (a5 : Int32) (h : zHp) : Option (Int32 × zHp) :=
  k12 a1 a2 a3 a4 (a5 + (1 : Int32)) h
def s_X4_shutPast_L12 : Nat → Int32 → Int32 → Int32 → Int32 → Int32 → zHp → Option (Int32 × zHp)
  | 0, _, _, _, _, _, _ => none
  | f + 1, a1, a2, a3, a4, a5, h =>
  (zri h 21 20 a1).bind fun v1 =>
  if (a4 + v1) ≤ a5 then
    some (a3, h)
  else
    (zri h 22 160 a5).bind fun v3 =>
    if a2 < v3 then
      s_X4_shutPast_L58 (s_X4_shutPast_L12 f) a1 a2 a3 a4 a5 h
    else
      (zri h 23 160 a5).bind fun v5 =>
      if v5 < a3 then
        s_X4_shutPast_L58 (s_X4_shutPast_L12 f) a1 a2 a3 a4 a5 h
      else
        (zri h 23 160 a5).bind fun v7 =>
        (some (v7 + (1 : Int32))).bind fun v8 =>
        s_X4_shutPast_L58 (s_X4_shutPast_L12 f) a1 a2 v8 a4 a5 h
def s_X4_shutPast (a1 : Int32) (a2 : Int32) (h : zHp) : Option (Int32 × zHp) :=
  (some (a1 * (8 : Int32))).bind fun v1 =>
  s_X4_shutPast_L12 zFU a1 a2 a2 v1 v1 h
set_option maxRecDepth 100000 in
set_option maxHeartbeats 4000000 in
theorem k_X4_shutPast_L58 {l : Launch} {D : va_G} {cy : Nat → ClassId} {S0 d : Nat} {J : zJ} (q : (Int32 × zHp)) (hd : 0 ≤ d) (X : zOK l D cy S0 d RX4 cX4_shutPast 6 (yX4_shutPast.name == "<init>") 117 117 (some .int) (zRT 117 zRF (some (.int q.1)) q.2) J) {k12 : Int32 → Int32 → Int32 → Int32 → Int32 → zHp → Option (Int32 × zHp)} (hk12 : ∀ (a1 : Int32) (a2 : Int32) (a3 : Int32) (a4 : Int32) (a5 : Int32) (h : zHp), k12 a1 a2 a3 a4 a5 h = some q → J 12 [(0, .ref 13), (1, .int a1), (2, .int a2), (3, .int a3), (4, .int a4), (5, .int a5)] [] 117 zRF h) : ∀ (a1 : Int32) (a2 : Int32) (a3 : Int32) (a4 : Int32) (a5 : Int32) (h : zHp), s_X4_shutPast_L58 k12 a1 a2 a3 a4 a5 h = some q → J 58 [(0, .ref 13), (1, .int a1), (2, .int a2), (3, .int a3), (4, .int a4), (5, .int a5)] [] 117 zRF h := by
  intro a1 a2 a3 a4 a5 h e
  unfold s_X4_shutPast_L58 at e
  refine zv_iinc (k := 5) (v := a5 + (1 : Int32)) (lv' := [(5, .int (a5 + (1 : Int32))), (0, .ref 13), (1, .int a1), (2, .int a2), (3, .int a3), (4, .int a4)]) X dX4_shutPast_58 rfl rfl (Nat.le_of_ble_eq_true rfl) rfl ?_
  refine zv_goto (tgt := 12) X dX4_shutPast_61 (by decide) ?_
  exact zv_pick X [1, 2, 3, 4, 5, 0] rfl (hk12 _ _ _ _ _ _ e)
set_option maxRecDepth 100000 in
set_option maxHeartbeats 4000000 in
theorem k_X4_shutPast_L12 {l : Launch} {D : va_G} {cy : Nat → ClassId} {S0 d : Nat} {J : zJ} (q : (Int32 × zHp)) (hd : 0 ≤ d) (X : zOK l D cy S0 d RX4 cX4_shutPast 6 (yX4_shutPast.name == "<init>") 117 117 (some .int) (zRT 117 zRF (some (.int q.1)) q.2) J) : ∀ (f : Nat) (a1 : Int32) (a2 : Int32) (a3 : Int32) (a4 : Int32) (a5 : Int32) (h : zHp), s_X4_shutPast_L12 f a1 a2 a3 a4 a5 h = some q → J 12 [(0, .ref 13), (1, .int a1), (2, .int a2), (3, .int a3), (4, .int a4), (5, .int a5)] [] 117 zRF h := by
  intro f
  induction f with
  | zero => intro _ _ _ _ _ h e; exact absurd e (fun z => by cases z)
  | succ f ih =>
    intro a1 a2 a3 a4 a5 h e
    rw [s_X4_shutPast_L12] at e
    refine zv_iload X dX4_shutPast_12 rfl ?_
    refine zv_iload X dX4_shutPast_14 rfl ?_
    refine zv_aload_n X dX4_shutPast_16 rfl rfl ?_
    refine zv_getR X zf_RX4_34 znt_a zk_13 zb_13 zr_13_7 dX4_shutPast_17 ?_
    refine zv_iload_n X dX4_shutPast_20 rfl rfl ?_
    refine zb e (fun v1 gv1 e => ?_)
    refine zv_iald X zk_21 zl_21 zb_21 dX4_shutPast_21 gv1 ?_
    refine zv_iadd X dX4_shutPast_22 ?_
    refine zv_icmp_ge (tgt := 64) X dX4_shutPast_23 (by decide) (fun c2 => ?_) (fun c2 => ?_)
    · replace e := zit e c2
      refine zv_iload_n X dX4_shutPast_64 rfl rfl ?_
      exact zv_retI X e rfl dX4_shutPast_65
    · replace e := zif e c2
      refine zv_aload_n X dX4_shutPast_26 rfl rfl ?_
      refine zv_getR X zf_RX4_37 znt_a zk_13 zb_13 zr_13_8 dX4_shutPast_27 ?_
      refine zv_iload X dX4_shutPast_30 rfl ?_
      refine zb e (fun v3 gv3 e => ?_)
      refine zv_iald X zk_22 zl_22 zb_22 dX4_shutPast_32 gv3 ?_
      refine zv_iload_n X dX4_shutPast_33 rfl rfl ?_
      refine zv_icmp_gt (tgt := 58) X dX4_shutPast_34 (by decide) (fun c4 => ?_) (fun c4 => ?_)
      · replace e := zit e c4
        exact k_X4_shutPast_L58 q hd X ih _ _ _ _ _ _ e
      · replace e := zif e c4
        refine zv_aload_n X dX4_shutPast_37 rfl rfl ?_
        refine zv_getR X zf_RX4_40 znt_a zk_13 zb_13 zr_13_9 dX4_shutPast_38 ?_
        refine zv_iload X dX4_shutPast_41 rfl ?_
        refine zb e (fun v5 gv5 e => ?_)
        refine zv_iald X zk_23 zl_23 zb_23 dX4_shutPast_43 gv5 ?_
        refine zv_iload_n X dX4_shutPast_44 rfl rfl ?_
        refine zv_icmp_lt (tgt := 58) X dX4_shutPast_45 (by decide) (fun c6 => ?_) (fun c6 => ?_)
        · replace e := zit e c6
          exact k_X4_shutPast_L58 q hd X ih _ _ _ _ _ _ e
        · replace e := zif e c6
          refine zv_aload_n X dX4_shutPast_48 rfl rfl ?_
          refine zv_getR X zf_RX4_40 znt_a zk_13 zb_13 zr_13_9 dX4_shutPast_49 ?_
          refine zv_iload X dX4_shutPast_52 rfl ?_
          refine zb e (fun v7 gv7 e => ?_)
          refine zv_iald X zk_23 zl_23 zb_23 dX4_shutPast_54 gv7 ?_
          refine zv_iconst (v := (1 : Int32)) X dX4_shutPast_55 zic_1 ?_
          refine zv_iadd X dX4_shutPast_56 ?_
          refine zb e (fun v8 gv8 e => ?_)
          refine zv_nmI X gv8 ?_
          refine zv_istore_n (i := 3) (lv' := [(3, .int v8), (0, .ref 13), (1, .int a1), (2, .int a2), (4, .int a4), (5, .int a5)]) X dX4_shutPast_57 rfl (Nat.le_of_ble_eq_true rfl) rfl ?_
          exact zv_pick X [1, 2, 3, 0, 4, 5] rfl (k_X4_shutPast_L58 q hd X ih _ _ _ _ _ _ e)
set_option maxRecDepth 100000 in
set_option maxHeartbeats 4000000 in
theorem k_X4_shutPast {l : Launch} {D : va_G} {cy : Nat → ClassId} {S0 d : Nat} (hd : 0 ≤ d) {a1 : Int32} {a2 : Int32} {h : zHp} {q : (Int32 × zHp)} (e : s_X4_shutPast a1 a2 h = some q) : zCT l D cy S0 d yX4_shutPast cX4_shutPast 6 (some .int) [.ref 13, .int a1, .int a2] 117 zRF h (some (.int q.1)) 117 zRF q.2 := by
  unfold s_X4_shutPast at e
  refine zCT_of RX4 rfl zm_X4_shutPast (Nat.le_refl _) (Nat.le_of_ble_eq_true rfl) (fun J X => ?_)
  show J 0 [(0, .ref 13), (1, .int a1), (2, .int a2)] [] 117 zRF h
  refine zv_iload_n X dX4_shutPast_0 rfl rfl ?_
  refine zv_istore_n (i := 3) (lv' := [(3, .int a2), (0, .ref 13), (1, .int a1), (2, .int a2)]) X dX4_shutPast_1 rfl (Nat.le_of_ble_eq_true rfl) rfl ?_
  refine zv_iload_n X dX4_shutPast_2 rfl rfl ?_
  refine zv_bipush (v := (8 : Int32)) X dX4_shutPast_3 zbp_8 ?_
  refine zv_imul X dX4_shutPast_5 ?_
  refine zb e (fun v1 gv1 e => ?_)
  refine zv_nmI X gv1 ?_
  refine zv_istore (i := 4) (lv' := [(4, .int v1), (3, .int a2), (0, .ref 13), (1, .int a1), (2, .int a2)]) X dX4_shutPast_6 (Nat.le_of_ble_eq_true rfl) rfl ?_
  refine zv_iload X dX4_shutPast_8 rfl ?_
  refine zv_istore (i := 5) (lv' := [(5, .int v1), (4, .int v1), (3, .int a2), (0, .ref 13), (1, .int a1), (2, .int a2)]) X dX4_shutPast_10 (Nat.le_of_ble_eq_true rfl) rfl ?_
  exact zv_pick X [3, 4, 5, 2, 1, 0] rfl (k_X4_shutPast_L12 q hd X _ _ _ _ _ _ _ e)
-- X4_nextShut
def s_X4_nextShut_L58 (k14 : Int32 → Int32 → Int32 → Int32 → Int32 → zHp → Option (Int32 × zHp)) (a1 : Int32) (a2 : Int32) (a3 : Int32) (a4 : Int32) (a5 : Int32) (h : zHp) : Option (Int32 × zHp) :=
  k14 a1 a2 a3 a4 (a5 + (1 : Int32)) h
def s_X4_nextShut_L14 : Nat → Int32 → Int32 → Int32 → Int32 → Int32 → zHp → Option (Int32 × zHp)
  | 0, _, _, _, _, _, _ => none
  | f + 1, a1, a2, a3, a4, a5, h =>
  (zri h 21 20 a1).bind fun v1 =>
  if (a4 + v1) ≤ a5 then
    some (a3, h)
  else
    (zri h 22 160 a5).bind fun v3 =>
    if v3 ≤ a2 then
      s_X4_nextShut_L58 (s_X4_nextShut_L14 f) a1 a2 a3 a4 a5 h
    else
      (zri h 22 160 a5).bind fun v5 =>
      if a3 ≤ v5 then
        s_X4_nextShut_L58 (s_X4_nextShut_L14 f) a1 a2 a3 a4 a5 h
      else
        (zri h 22 160 a5).bind fun v7 =>
        s_X4_nextShut_L58 (s_X4_nextShut_L14 f) a1 a2 v7 a4 a5 h
def s_X4_nextShut (a1 : Int32) (a2 : Int32) (h : zHp) : Option (Int32 × zHp) :=
  (some (a1 * (8 : Int32))).bind fun v1 =>
  s_X4_nextShut_L14 zFU a1 a2 (1501 : Int32) v1 v1 h
set_option maxRecDepth 100000 in
set_option maxHeartbeats 4000000 in
theorem k_X4_nextShut_L58 {l : Launch} {D : va_G} {cy : Nat → ClassId} {S0 d : Nat} {J : zJ} (q : (Int32 × zHp)) (hd : 0 ≤ d) (X : zOK l D cy S0 d RX4 cX4_nextShut 6 (yX4_nextShut.name == "<init>") 117 117 (some .int) (zRT 117 zRF (some (.int q.1)) q.2) J) {k14 : Int32 → Int32 → Int32 → Int32 → Int32 → zHp → Option (Int32 × zHp)} (hk14 : ∀ (a1 : Int32) (a2 : Int32) (a3 : Int32) (a4 : Int32) (a5 : Int32) (h : zHp), k14 a1 a2 a3 a4 a5 h = some q → J 14 [(0, .ref 13), (1, .int a1), (2, .int a2), (3, .int a3), (4, .int a4), (5, .int a5)] [] 117 zRF h) : ∀ (a1 : Int32) (a2 : Int32) (a3 : Int32) (a4 : Int32) (a5 : Int32) (h : zHp), s_X4_nextShut_L58 k14 a1 a2 a3 a4 a5 h = some q → J 58 [(0, .ref 13), (1, .int a1), (2, .int a2), (3, .int a3), (4, .int a4), (5, .int a5)] [] 117 zRF h := by
  intro a1 a2 a3 a4 a5 h e
  unfold s_X4_nextShut_L58 at e
  refine zv_iinc (k := 5) (v := a5 + (1 : Int32)) (lv' := [(5, .int (a5 + (1 : Int32))), (0, .ref 13), (1, .int a1), (2, .int a2), (3, .int a3), (4, .int a4)]) X dX4_nextShut_58 rfl rfl (Nat.le_of_ble_eq_true rfl) rfl ?_
  refine zv_goto (tgt := 14) X dX4_nextShut_61 (by decide) ?_
  exact zv_pick X [1, 2, 3, 4, 5, 0] rfl (hk14 _ _ _ _ _ _ e)
set_option maxRecDepth 100000 in
set_option maxHeartbeats 4000000 in
theorem k_X4_nextShut_L14 {l : Launch} {D : va_G} {cy : Nat → ClassId} {S0 d : Nat} {J : zJ} (q : (Int32 × zHp)) (hd : 0 ≤ d) (X : zOK l D cy S0 d RX4 cX4_nextShut 6 (yX4_nextShut.name == "<init>") 117 117 (some .int) (zRT 117 zRF (some (.int q.1)) q.2) J) : ∀ (f : Nat) (a1 : Int32) (a2 : Int32) (a3 : Int32) (a4 : Int32) (a5 : Int32) (h : zHp), s_X4_nextShut_L14 f a1 a2 a3 a4 a5 h = some q → J 14 [(0, .ref 13), (1, .int a1), (2, .int a2), (3, .int a3), (4, .int a4), (5, .int a5)] [] 117 zRF h := by
  intro f
  induction f with
  | zero => intro _ _ _ _ _ h e; exact absurd e (fun z => by cases z)
  | succ f ih =>
    intro a1 a2 a3 a4 a5 h e
    rw [s_X4_nextShut_L14] at e
    refine zv_iload X dX4_nextShut_14 rfl ?_
    refine zv_iload X dX4_nextShut_16 rfl ?_
    refine zv_aload_n X dX4_nextShut_18 rfl rfl ?_
    refine zv_getR X zf_RX4_34 znt_a zk_13 zb_13 zr_13_7 dX4_nextShut_19 ?_
    refine zv_iload_n X dX4_nextShut_22 rfl rfl ?_
    refine zb e (fun v1 gv1 e => ?_)
    refine zv_iald X zk_21 zl_21 zb_21 dX4_nextShut_23 gv1 ?_
    refine zv_iadd X dX4_nextShut_24 ?_
    refine zv_icmp_ge (tgt := 64) X dX4_nextShut_25 (by decide) (fun c2 => ?_) (fun c2 => ?_)
    · replace e := zit e c2
      refine zv_iload_n X dX4_nextShut_64 rfl rfl ?_
      exact zv_retI X e rfl dX4_nextShut_65
    · replace e := zif e c2
      refine zv_aload_n X dX4_nextShut_28 rfl rfl ?_
      refine zv_getR X zf_RX4_37 znt_a zk_13 zb_13 zr_13_8 dX4_nextShut_29 ?_
      refine zv_iload X dX4_nextShut_32 rfl ?_
      refine zb e (fun v3 gv3 e => ?_)
      refine zv_iald X zk_22 zl_22 zb_22 dX4_nextShut_34 gv3 ?_
      refine zv_iload_n X dX4_nextShut_35 rfl rfl ?_
      refine zv_icmp_le (tgt := 58) X dX4_nextShut_36 (by decide) (fun c4 => ?_) (fun c4 => ?_)
      · replace e := zit e c4
        exact k_X4_nextShut_L58 q hd X ih _ _ _ _ _ _ e
      · replace e := zif e c4
        refine zv_aload_n X dX4_nextShut_39 rfl rfl ?_
        refine zv_getR X zf_RX4_37 znt_a zk_13 zb_13 zr_13_8 dX4_nextShut_40 ?_
        refine zv_iload X dX4_nextShut_43 rfl ?_
        refine zb e (fun v5 gv5 e => ?_)
        refine zv_iald X zk_22 zl_22 zb_22 dX4_nextShut_45 gv5 ?_
        refine zv_iload_n X dX4_nextShut_46 rfl rfl ?_
        refine zv_icmp_ge (tgt := 58) X dX4_nextShut_47 (by decide) (fun c6 => ?_) (fun c6 => ?_)
        · replace e := zit e c6
          exact k_X4_nextShut_L58 q hd X ih _ _ _ _ _ _ e
        · replace e := zif e c6
          refine zv_aload_n X dX4_nextShut_50 rfl rfl ?_
          refine zv_getR X zf_RX4_37 znt_a zk_13 zb_13 zr_13_8 dX4_nextShut_51 ?_
          refine zv_iload X dX4_nextShut_54 rfl ?_
          refine zb e (fun v7 gv7 e => ?_)
          refine zv_iald X zk_22 zl_22 zb_22 dX4_nextShut_56 gv7 ?_
          refine zv_istore_n (i := 3) (lv' := [(3, .int v7), (0, .ref 13), (1, .int a1), (2, .int a2), (4, .int a4), (5, .int a5)]) X dX4_nextShut_57 rfl (Nat.le_of_ble_eq_true rfl) rfl ?_
          exact zv_pick X [1, 2, 3, 0, 4, 5] rfl (k_X4_nextShut_L58 q hd X ih _ _ _ _ _ _ e)
set_option maxRecDepth 100000 in
set_option maxHeartbeats 4000000 in
theorem k_X4_nextShut {l : Launch} {D : va_G} {cy : Nat → ClassId} {S0 d : Nat} (hd : 0 ≤ d) {a1 : Int32} {a2 : Int32} {h : zHp} {q : (Int32 × zHp)} (e : s_X4_nextShut a1 a2 h = some q) : zCT l D cy S0 d yX4_nextShut cX4_nextShut 6 (some .int) [.ref 13, .int a1, .int a2] 117 zRF h (some (.int q.1)) 117 zRF q.2 := by
  unfold s_X4_nextShut at e
  refine zCT_of RX4 rfl zm_X4_nextShut (Nat.le_refl _) (Nat.le_of_ble_eq_true rfl) (fun J X => ?_)
  show J 0 [(0, .ref 13), (1, .int a1), (2, .int a2)] [] 117 zRF h
  refine zv_sipush (v := (1501 : Int32)) X dX4_nextShut_0 zsp_1501 ?_
  refine zv_istore_n (i := 3) (lv' := [(3, .int (1501 : Int32)), (0, .ref 13), (1, .int a1), (2, .int a2)]) X dX4_nextShut_3 rfl (Nat.le_of_ble_eq_true rfl) rfl ?_
  refine zv_iload_n X dX4_nextShut_4 rfl rfl ?_
  refine zv_bipush (v := (8 : Int32)) X dX4_nextShut_5 zbp_8 ?_
  refine zv_imul X dX4_nextShut_7 ?_
  refine zb e (fun v1 gv1 e => ?_)
  refine zv_nmI X gv1 ?_
  refine zv_istore (i := 4) (lv' := [(4, .int v1), (3, .int (1501 : Int32)), (0, .ref 13), (1, .int a1), (2, .int a2)]) X dX4_nextShut_8 (Nat.le_of_ble_eq_true rfl) rfl ?_
  refine zv_iload X dX4_nextShut_10 rfl ?_
  refine zv_istore (i := 5) (lv' := [(5, .int v1), (4, .int v1), (3, .int (1501 : Int32)), (0, .ref 13), (1, .int a1), (2, .int a2)]) X dX4_nextShut_12 (Nat.le_of_ble_eq_true rfl) rfl ?_
  exact zv_pick X [3, 4, 5, 2, 1, 0] rfl (k_X4_nextShut_L14 q hd X _ _ _ _ _ _ _ e)

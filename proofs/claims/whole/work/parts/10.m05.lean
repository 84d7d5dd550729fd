-- X10_falses
def s_X10_falses_L40 (k4 : Int32 → Int32 → zHp → Option (Int32 × zHp)) (a2 : Int32) (b0 : Int32) (b1 : Int32) (h : zHp) : Option (Int32 × zHp) :=
  (some (b0 + b1)).bind fun v1 =>
  k4 v1 (a2 + (1 : Int32)) h
def s_X10_falses_L4 : Nat → Int32 → Int32 → zHp → Option (Int32 × zHp)
  | 0, _, _, _ => none
  | f + 1, a1, a2, h =>
  if (h.1 67 8) ≤ a2 then
    some (a1, h)
  else
    (zri h 80 20 a2).bind fun v2 =>
    (s_X10_starOf a2 (h.1 67 0) (h.1 67 0) h).bind fun q3 =>
    if v2 ≤ q3.1 then
      s_X10_falses_L40 (s_X10_falses_L4 f) a2 a1 (0 : Int32) q3.2
    else
      s_X10_falses_L40 (s_X10_falses_L4 f) a2 a1 (1 : Int32) q3.2
def s_X10_falses  (h : zHp) : Option (Int32 × zHp) :=
  s_X10_falses_L4 zFU (0 : Int32) (0 : Int32) h
set_option maxRecDepth 100000 in
set_option maxHeartbeats 4000000 in
theorem k_X10_falses_L40 {l : Launch} {D : va_G} {cy : Nat → ClassId} {S0 d : Nat} {J : zJ} (q : (Int32 × zHp)) (hd : 3 ≤ d) (X : zOK l D cy S0 d RX10 cX10_falses 3 (yX10_falses.name == "<init>") 117 117 (some .int) (zRT 117 zRF (some (.int q.1)) q.2) J) {k4 : Int32 → Int32 → zHp → Option (Int32 × zHp)} (hk4 : ∀ (a1 : Int32) (a2 : Int32) (h : zHp), k4 a1 a2 h = some q → J 4 [(0, .ref 67), (1, .int a1), (2, .int a2)] [] 117 zRF h) : ∀ (a2 : Int32) (b0 : Int32) (b1 : Int32) (h : zHp), s_X10_falses_L40 k4 a2 b0 b1 h = some q → J 40 [(0, .ref 67), (2, .int a2)] [.int b1, .int b0] 117 zRF h := by
  intro a2 b0 b1 h e
  unfold s_X10_falses_L40 at e
  refine zv_iadd X dX10_falses_40 ?_
  refine zb e (fun v1 gv1 e => ?_)
  refine zv_nmI X gv1 ?_
  refine zv_istore_n (i := 1) (lv' := [(1, .int v1), (0, .ref 67), (2, .int a2)]) X dX10_falses_41 rfl (Nat.le_of_ble_eq_true rfl) rfl ?_
  refine zv_iinc (k := 2) (v := a2 + (1 : Int32)) (lv' := [(2, .int (a2 + (1 : Int32))), (1, .int v1), (0, .ref 67)]) X dX10_falses_42 rfl rfl (Nat.le_of_ble_eq_true rfl) rfl ?_
  refine zv_goto (tgt := 4) X dX10_falses_45 (by decide) ?_
  exact zv_pick X [2, 1, 0] rfl (hk4 _ _ _ e)
set_option maxRecDepth 100000 in
set_option maxHeartbeats 4000000 in
theorem k_X10_falses_L4 {l : Launch} {D : va_G} {cy : Nat → ClassId} {S0 d : Nat} {J : zJ} (q : (Int32 × zHp)) (hd : 3 ≤ d) (X : zOK l D cy S0 d RX10 cX10_falses 3 (yX10_falses.name == "<init>") 117 117 (some .int) (zRT 117 zRF (some (.int q.1)) q.2) J) : ∀ (f : Nat) (a1 : Int32) (a2 : Int32) (h : zHp), s_X10_falses_L4 f a1 a2 h = some q → J 4 [(0, .ref 67), (1, .int a1), (2, .int a2)] [] 117 zRF h := by
  intro f
  induction f with
  | zero => intro _ _ h e; exact absurd e (fun z => by cases z)
  | succ f ih =>
    intro a1 a2 h e
    rw [s_X10_falses_L4] at e
    refine zv_iload_n X dX10_falses_4 rfl rfl ?_
    refine zv_aload_n X dX10_falses_5 rfl rfl ?_
    refine zv_getI X zf_RX10_165 zk_67 zb_67 dX10_falses_6 ?_
    refine zv_icmp_ge (tgt := 48) X dX10_falses_9 (by decide) (fun c1 => ?_) (fun c1 => ?_)
    · replace e := zit e c1
      refine zv_iload_n X dX10_falses_48 rfl rfl ?_
      exact zv_retI X e rfl dX10_falses_49
    · replace e := zif e c1
      refine zv_iload_n X dX10_falses_12 rfl rfl ?_
      refine zv_aload_n X dX10_falses_13 rfl rfl ?_
      refine zv_getR X zf_RX10_47 znt_a zk_67 zb_67 zr_67_15 dX10_falses_14 ?_
      refine zv_iload_n X dX10_falses_17 rfl rfl ?_
      refine zb e (fun v2 gv2 e => ?_)
      refine zv_iald X zk_80 zl_80 zb_80 dX10_falses_18 gv2 ?_
      refine zv_aload_n X dX10_falses_19 rfl rfl ?_
      refine zv_iload_n X dX10_falses_20 rfl rfl ?_
      refine zv_aload_n X dX10_falses_21 rfl rfl ?_
      refine zv_getI X zf_RX10_179 zk_67 zb_67 dX10_falses_22 ?_
      refine zv_aload_n X dX10_falses_25 rfl rfl ?_
      refine zv_getI X zf_RX10_179 zk_67 zb_67 dX10_falses_26 ?_
      refine zb e (fun q3 gq3 e => ?_)
      refine zv_callV (stk := [.int (h.1 67 0), .int (h.1 67 0), .int a2, .ref 67, .int v2, .int a1]) (as := [.int a2, .int (h.1 67 0), .int (h.1 67 0)]) (st := [.int v2, .int a1]) (k := 67) X zl_RX10_220 zm_X10_starOf (k_X10_starOf (d := d - 1) (by omega) gq3) (by omega) zb_67 (by rw [zk_67]; rfl) rfl rfl (Nat.le_of_ble_eq_true rfl) (Nat.le_refl _) rfl dX10_falses_29 ?_
      show J 32 [(0, .ref 67), (1, .int a1), (2, .int a2)] [.int q3.1, .int v2, .int a1] 117 zRF q3.2
      refine zv_icmp_le (tgt := 39) X dX10_falses_32 (by decide) (fun c4 => ?_) (fun c4 => ?_)
      · replace e := zit e c4
        refine zv_iconst (v := (0 : Int32)) X dX10_falses_39 zic_0 ?_
        exact zv_pick X [0, 2] rfl (k_X10_falses_L40 q hd X ih _ _ _ _ e)
      · replace e := zif e c4
        refine zv_iconst (v := (1 : Int32)) X dX10_falses_35 zic_1 ?_
        refine zv_goto (tgt := 40) X dX10_falses_36 (by decide) ?_
        exact zv_pick X [0, 2] rfl (k_X10_falses_L40 q hd X ih _ _ _ _ e)
set_option maxRecDepth 100000 in
set_option maxHeartbeats 4000000 in
theorem k_X10_falses {l : Launch} {D : va_G} {cy : Nat → ClassId} {S0 d : Nat} (hd : 3 ≤ d) {h : zHp} {q : (Int32 × zHp)} (e : s_X10_falses  h = some q) : zCT l D cy S0 d yX10_falses cX10_falses 3 (some .int) [.ref 67] 117 zRF h (some (.int q.1)) 117 zRF q.2 := by
  unfold s_X10_falses at e
  refine zCT_of RX10 rfl zm_X10_falses (Nat.le_refl _) (Nat.le_of_ble_eq_true rfl) (fun J X => ?_)
  show J 0 [(0, .ref 67)] [] 117 zRF h
  refine zv_iconst (v := (0 : Int32)) X dX10_falses_0 zic_0 ?_
  refine zv_istore_n (i := 1) (lv' := [(1, .int (0 : Int32)), (0, .ref 67)]) X dX10_falses_1 rfl (Nat.le_of_ble_eq_true rfl) rfl ?_
  refine zv_iconst (v := (0 : Int32)) X dX10_falses_2 zic_0 ?_
  refine zv_istore_n (i := 2) (lv' := [(2, .int (0 : Int32)), (1, .int (0 : Int32)), (0, .ref 67)]) X dX10_falses_3 rfl (Nat.le_of_ble_eq_true rfl) rfl ?_
  exact zv_pick X [2, 1, 0] rfl (k_X10_falses_L4 q hd X _ _ _ _ e)
-- X9_base
def s_X9_base (a1 : Int32) (a2 : Int32) (h : zHp) : Option (Int32 × zHp) :=
  (s_X9_isWithin a1 (4 : Int32) h).bind fun q1 =>
  if q1.1 = 0 then
    (s_X9_refused (-2 : Int32) q1.2).bind fun q9 =>
    some (q9.1, q9.2)
  else
    if (1 : Int32) ≤ a2 then
      if a2 ≤ (50 : Int32) then
        (zri q1.2 3 4 a1).bind fun v5 =>
        (zui q1.2 3 4 a1 a2).bind fun h6 =>
        some (v5, h6)
      else
        (s_X9_refused (-6 : Int32) q1.2).bind fun q7 =>
        some (q7.1, q7.2)
    else
      (s_X9_refused (-4 : Int32) q1.2).bind fun q8 =>
      some (q8.1, q8.2)
set_option maxRecDepth 100000 in
set_option maxHeartbeats 4000000 in
theorem k_X9_base {l : Launch} {D : va_G} {cy : Nat → ClassId} {S0 d : Nat} (hd : 1 ≤ d) {a1 : Int32} {a2 : Int32} {h : zHp} {q : (Int32 × zHp)} (e : s_X9_base a1 a2 h = some q) : zCT l D cy S0 d yX9_base cX9_base 4 (some .int) [.ref 0, .int a1, .int a2] 117 zRF h (some (.int q.1)) 117 zRF q.2 := by
  unfold s_X9_base at e
  refine zCT_of RX9 rfl zm_X9_base (Nat.le_refl _) (Nat.le_of_ble_eq_true rfl) (fun J X => ?_)
  show J 0 [(0, .ref 0), (1, .int a1), (2, .int a2)] [] 117 zRF h
  refine zv_iload_n X dX9_base_0 rfl rfl ?_
  refine zv_iconst (v := (4 : Int32)) X dX9_base_1 zic_4 ?_
  refine zb e (fun q1 gq1 e => ?_)
  refine zv_callS (stk := [.int (4 : Int32), .int a1]) (as := [.int a1, .int (4 : Int32)]) (st := []) X zl_RX9_112 zm_X9_isWithin (k_X9_isWithin (d := d - 1) (by omega) gq1) (by omega) rfl (Nat.le_of_ble_eq_true rfl) (Nat.le_refl _) rfl dX9_base_2 ?_
  show J 5 [(0, .ref 0), (1, .int a1), (2, .int a2)] [.int q1.1] 117 zRF q1.2
  refine zv_if_ne (tgt := 15) X dX9_base_5 (by decide) (fun c2 => ?_) (fun c2 => ?_)
  · replace e := zif e c2
    refine zv_iload_n X dX9_base_15 rfl rfl ?_
    refine zv_iconst (v := (1 : Int32)) X dX9_base_16 zic_1 ?_
    refine zv_icmp_ge (tgt := 27) X dX9_base_17 (by decide) (fun c3 => ?_) (fun c3 => ?_)
    · replace e := zit e c3
      refine zv_iload_n X dX9_base_27 rfl rfl ?_
      refine zv_bipush (v := (50 : Int32)) X dX9_base_28 zbp_50 ?_
      refine zv_icmp_le (tgt := 40) X dX9_base_30 (by decide) (fun c4 => ?_) (fun c4 => ?_)
      · replace e := zit e c4
        refine zv_aload_n X dX9_base_40 rfl rfl ?_
        refine zv_getR X zf_RX9_17 znt_a zk_0 zb_0 zr_0_2 dX9_base_41 ?_
        refine zv_iload_n X dX9_base_44 rfl rfl ?_
        refine zb e (fun v5 gv5 e => ?_)
        refine zv_iald X zk_3 zl_3 zb_3 dX9_base_45 gv5 ?_
        refine zv_istore_n (i := 3) (lv' := [(3, .int v5), (0, .ref 0), (1, .int a1), (2, .int a2)]) X dX9_base_46 rfl (Nat.le_of_ble_eq_true rfl) rfl ?_
        refine zv_aload_n X dX9_base_47 rfl rfl ?_
        refine zv_getR X zf_RX9_17 znt_a zk_0 zb_0 zr_0_2 dX9_base_48 ?_
        refine zv_iload_n X dX9_base_51 rfl rfl ?_
        refine zv_iload_n X dX9_base_52 rfl rfl ?_
        refine zb e (fun h6 gh6 e => ?_)
        refine zv_iast X zk_3 zl_3 zb_3 dX9_base_53 gh6 ?_
        refine zv_iload_n X dX9_base_54 rfl rfl ?_
        exact zv_retI X e rfl dX9_base_55
      · replace e := zif e c4
        refine zv_aload_n X dX9_base_33 rfl rfl ?_
        refine zv_bipush (v := (-6 : Int32)) X dX9_base_34 zbp_m6 ?_
        refine zb e (fun q7 gq7 e => ?_)
        refine zv_callV (stk := [.int (-6 : Int32), .ref 0]) (as := [.int (-6 : Int32)]) (st := []) (k := 0) X zl_RX9_108 zm_X9_refused (k_X9_refused (d := d - 1) (by omega) gq7) (by omega) zb_0 (by rw [zk_0]; rfl) rfl rfl (Nat.le_of_ble_eq_true rfl) (Nat.le_refl _) rfl dX9_base_36 ?_
        show J 39 [(0, .ref 0), (1, .int a1), (2, .int a2)] [.int q7.1] 117 zRF q7.2
        exact zv_retI X e rfl dX9_base_39
    · replace e := zif e c3
      refine zv_aload_n X dX9_base_20 rfl rfl ?_
      refine zv_bipush (v := (-4 : Int32)) X dX9_base_21 zbp_m4 ?_
      refine zb e (fun q8 gq8 e => ?_)
      refine zv_callV (stk := [.int (-4 : Int32), .ref 0]) (as := [.int (-4 : Int32)]) (st := []) (k := 0) X zl_RX9_108 zm_X9_refused (k_X9_refused (d := d - 1) (by omega) gq8) (by omega) zb_0 (by rw [zk_0]; rfl) rfl rfl (Nat.le_of_ble_eq_true rfl) (Nat.le_refl _) rfl dX9_base_23 ?_
      show J 26 [(0, .ref 0), (1, .int a1), (2, .int a2)] [.int q8.1] 117 zRF q8.2
      exact zv_retI X e rfl dX9_base_26
  · replace e := zit e c2
    refine zv_aload_n X dX9_base_8 rfl rfl ?_
    refine zv_bipush (v := (-2 : Int32)) X dX9_base_9 zbp_m2 ?_
    refine zb e (fun q9 gq9 e => ?_)
    refine zv_callV (stk := [.int (-2 : Int32), .ref 0]) (as := [.int (-2 : Int32)]) (st := []) (k := 0) X zl_RX9_108 zm_X9_refused (k_X9_refused (d := d - 1) (by omega) gq9) (by omega) zb_0 (by rw [zk_0]; rfl) rfl rfl (Nat.le_of_ble_eq_true rfl) (Nat.le_refl _) rfl dX9_base_11 ?_
    show J 14 [(0, .ref 0), (1, .int a1), (2, .int a2)] [.int q9.1] 117 zRF q9.2
    exact zv_retI X e rfl dX9_base_14
-- X10_base
def s_X10_base (a1 : Int32) (a2 : Int32) (h : zHp) : Option (Int32 × zHp) :=
  (s_X10_in a1 (0 : Int32) (3 : Int32) h).bind fun q1 =>
  if q1.1 = 0 then
    (s_X10_refuse (-2 : Int32) q1.2).bind fun q9 =>
    some (q9.1, q9.2)
  else
    if (1 : Int32) ≤ a2 then
      if a2 ≤ (50 : Int32) then
        (zri q1.2 92 4 a1).bind fun v5 =>
        (zui q1.2 92 4 a1 a2).bind fun h6 =>
        some (v5, h6)
      else
        (s_X10_refuse (-6 : Int32) q1.2).bind fun q7 =>
        some (q7.1, q7.2)
    else
      (s_X10_refuse (-4 : Int32) q1.2).bind fun q8 =>
      some (q8.1, q8.2)
set_option maxRecDepth 100000 in
set_option maxHeartbeats 4000000 in
theorem k_X10_base {l : Launch} {D : va_G} {cy : Nat → ClassId} {S0 d : Nat} (hd : 1 ≤ d) {a1 : Int32} {a2 : Int32} {h : zHp} {q : (Int32 × zHp)} (e : s_X10_base a1 a2 h = some q) : zCT l D cy S0 d yX10_base cX10_base 4 (some .int) [.ref 67, .int a1, .int a2] 117 zRF h (some (.int q.1)) 117 zRF q.2 := by
  unfold s_X10_base at e
  refine zCT_of RX10 rfl zm_X10_base (Nat.le_refl _) (Nat.le_of_ble_eq_true rfl) (fun J X => ?_)
  show J 0 [(0, .ref 67), (1, .int a1), (2, .int a2)] [] 117 zRF h
  refine zv_iload_n X dX10_base_0 rfl rfl ?_
  refine zv_iconst (v := (0 : Int32)) X dX10_base_1 zic_0 ?_
  refine zv_iconst (v := (3 : Int32)) X dX10_base_2 zic_3 ?_
  refine zb e (fun q1 gq1 e => ?_)
  refine zv_callS (stk := [.int (3 : Int32), .int (0 : Int32), .int a1]) (as := [.int a1, .int (0 : Int32), .int (3 : Int32)]) (st := []) X zl_RX10_168 zm_X10_in (k_X10_in (d := d - 1) (by omega) gq1) (by omega) rfl (Nat.le_of_ble_eq_true rfl) (Nat.le_refl _) rfl dX10_base_3 ?_
  show J 6 [(0, .ref 67), (1, .int a1), (2, .int a2)] [.int q1.1] 117 zRF q1.2
  refine zv_if_ne (tgt := 16) X dX10_base_6 (by decide) (fun c2 => ?_) (fun c2 => ?_)
  · replace e := zif e c2
    refine zv_iload_n X dX10_base_16 rfl rfl ?_
    refine zv_iconst (v := (1 : Int32)) X dX10_base_17 zic_1 ?_
    refine zv_icmp_ge (tgt := 28) X dX10_base_18 (by decide) (fun c3 => ?_) (fun c3 => ?_)
    · replace e := zit e c3
      refine zv_iload_n X dX10_base_28 rfl rfl ?_
      refine zv_bipush (v := (50 : Int32)) X dX10_base_29 zbp_50 ?_
      refine zv_icmp_le (tgt := 41) X dX10_base_31 (by decide) (fun c4 => ?_) (fun c4 => ?_)
      · replace e := zit e c4
        refine zv_aload_n X dX10_base_41 rfl rfl ?_
        refine zv_getR X zf_RX10_83 znt_a zk_67 zb_67 zr_67_29 dX10_base_42 ?_
        refine zv_iload_n X dX10_base_45 rfl rfl ?_
        refine zb e (fun v5 gv5 e => ?_)
        refine zv_iald X zk_92 zl_92 zb_92 dX10_base_46 gv5 ?_
        refine zv_istore_n (i := 3) (lv' := [(3, .int v5), (0, .ref 67), (1, .int a1), (2, .int a2)]) X dX10_base_47 rfl (Nat.le_of_ble_eq_true rfl) rfl ?_
        refine zv_aload_n X dX10_base_48 rfl rfl ?_
        refine zv_getR X zf_RX10_83 znt_a zk_67 zb_67 zr_67_29 dX10_base_49 ?_
        refine zv_iload_n X dX10_base_52 rfl rfl ?_
        refine zv_iload_n X dX10_base_53 rfl rfl ?_
        refine zb e (fun h6 gh6 e => ?_)
        refine zv_iast X zk_92 zl_92 zb_92 dX10_base_54 gh6 ?_
        refine zv_iload_n X dX10_base_55 rfl rfl ?_
        exact zv_retI X e rfl dX10_base_56
      · replace e := zif e c4
        refine zv_aload_n X dX10_base_34 rfl rfl ?_
        refine zv_bipush (v := (-6 : Int32)) X dX10_base_35 zbp_m6 ?_
        refine zb e (fun q7 gq7 e => ?_)
        refine zv_callV (stk := [.int (-6 : Int32), .ref 67]) (as := [.int (-6 : Int32)]) (st := []) (k := 67) X zl_RX10_175 zm_X10_refuse (k_X10_refuse (d := d - 1) (by omega) gq7) (by omega) zb_67 (by rw [zk_67]; rfl) rfl rfl (Nat.le_of_ble_eq_true rfl) (Nat.le_refl _) rfl dX10_base_37 ?_
        show J 40 [(0, .ref 67), (1, .int a1), (2, .int a2)] [.int q7.1] 117 zRF q7.2
        exact zv_retI X e rfl dX10_base_40
    · replace e := zif e c3
      refine zv_aload_n X dX10_base_21 rfl rfl ?_
      refine zv_bipush (v := (-4 : Int32)) X dX10_base_22 zbp_m4 ?_
      refine zb e (fun q8 gq8 e => ?_)
      refine zv_callV (stk := [.int (-4 : Int32), .ref 67]) (as := [.int (-4 : Int32)]) (st := []) (k := 67) X zl_RX10_175 zm_X10_refuse (k_X10_refuse (d := d - 1) (by omega) gq8) (by omega) zb_67 (by rw [zk_67]; rfl) rfl rfl (Nat.le_of_ble_eq_true rfl) (Nat.le_refl _) rfl dX10_base_24 ?_
      show J 27 [(0, .ref 67), (1, .int a1), (2, .int a2)] [.int q8.1] 117 zRF q8.2
      exact zv_retI X e rfl dX10_base_27
  · replace e := zit e c2
    refine zv_aload_n X dX10_base_9 rfl rfl ?_
    refine zv_bipush (v := (-2 : Int32)) X dX10_base_10 zbp_m2 ?_
    refine zb e (fun q9 gq9 e => ?_)
    refine zv_callV (stk := [.int (-2 : Int32), .ref 67]) (as := [.int (-2 : Int32)]) (st := []) (k := 67) X zl_RX10_175 zm_X10_refuse (k_X10_refuse (d := d - 1) (by omega) gq9) (by omega) zb_67 (by rw [zk_67]; rfl) rfl rfl (Nat.le_of_ble_eq_true rfl) (Nat.le_refl _) rfl dX10_base_12 ?_
    show J 15 [(0, .ref 67), (1, .int a1), (2, .int a2)] [.int q9.1] 117 zRF q9.2
    exact zv_retI X e rfl dX10_base_15
-- X4_mouthsOf
def s_X4_mouthsOf (a1 : Int32) (h : zHp) : Option (Int32 × zHp) :=
  (zri h 16 20 a1).bind fun v1 =>
  some (v1, h)
set_option maxRecDepth 100000 in
set_option maxHeartbeats 4000000 in
theorem k_X4_mouthsOf {l : Launch} {D : va_G} {cy : Nat → ClassId} {S0 d : Nat} (hd : 0 ≤ d) {a1 : Int32} {h : zHp} {q : (Int32 × zHp)} (e : s_X4_mouthsOf a1 h = some q) : zCT l D cy S0 d yX4_mouthsOf cX4_mouthsOf 2 (some .int) [.ref 13, .int a1] 117 zRF h (some (.int q.1)) 117 zRF q.2 := by
  unfold s_X4_mouthsOf at e
  refine zCT_of RX4 rfl zm_X4_mouthsOf (Nat.le_refl _) (Nat.le_of_ble_eq_true rfl) (fun J X => ?_)
  show J 0 [(0, .ref 13), (1, .int a1)] [] 117 zRF h
  refine zv_aload_n X dX4_mouthsOf_0 rfl rfl ?_
  refine zv_getR X zf_RX4_18 znt_a zk_13 zb_13 zr_13_2 dX4_mouthsOf_1 ?_
  refine zv_iload_n X dX4_mouthsOf_4 rfl rfl ?_
  refine zb e (fun v1 gv1 e => ?_)
  refine zv_iald X zk_16 zl_16 zb_16 dX4_mouthsOf_5 gv1 ?_
  exact zv_retI X e rfl dX4_mouthsOf_6
-- X4_kindOf
def s_X4_kindOf (a1 : Int32) (h : zHp) : Option (Int32 × zHp) :=
  (zri h 14 20 a1).bind fun v1 =>
  some (v1, h)
set_option maxRecDepth 100000 in
set_option maxHeartbeats 4000000 in
theorem k_X4_kindOf {l : Launch} {D : va_G} {cy : Nat → ClassId} {S0 d : Nat} (hd : 0 ≤ d) {a1 : Int32} {h : zHp} {q : (Int32 × zHp)} (e : s_X4_kindOf a1 h = some q) : zCT l D cy S0 d yX4_kindOf cX4_kindOf 2 (some .int) [.ref 13, .int a1] 117 zRF h (some (.int q.1)) 117 zRF q.2 := by
  unfold s_X4_kindOf at e
  refine zCT_of RX4 rfl zm_X4_kindOf (Nat.le_refl _) (Nat.le_of_ble_eq_true rfl) (fun J X => ?_)
  show J 0 [(0, .ref 13), (1, .int a1)] [] 117 zRF h
  refine zv_aload_n X dX4_kindOf_0 rfl rfl ?_
  refine zv_getR X zf_RX4_9 znt_a zk_13 zb_13 zr_13_0 dX4_kindOf_1 ?_
  refine zv_iload_n X dX4_kindOf_4 rfl rfl ?_
  refine zb e (fun v1 gv1 e => ?_)
  refine zv_iald X zk_14 zl_14 zb_14 dX4_kindOf_5 gv1 ?_
  exact zv_retI X e rfl dX4_kindOf_6
-- X9_riskOf
def s_X9_riskOf_L25 (a1 : Int32) (b0 : Int32) (h : zHp) : Option (Int32 × zHp) :=
  (s_X4_mouthsOf a1 h).bind fun q1 =>
  (zdiv q1.1 (50 : Int32)).bind fun v2 =>
  (s_X4_kindOf a1 q1.2).bind fun q3 =>
  (zri q3.2 3 4 q3.1).bind fun v4 =>
  some ((v4 + v2) + ((8 : Int32) * b0), q3.2)
def s_X9_riskOf (a1 : Int32) (h : zHp) : Option (Int32 × zHp) :=
  (s_X9_starOf a1 (h.1 0 14) (h.1 0 14) h).bind fun q1 =>
  if q1.1 = 0 then
    s_X9_riskOf_L25 a1 (3 : Int32) q1.2
  else
    s_X9_riskOf_L25 a1 ((5 : Int32) - q1.1) q1.2
set_option maxRecDepth 100000 in
set_option maxHeartbeats 4000000 in
theorem k_X9_riskOf_L25 {l : Launch} {D : va_G} {cy : Nat → ClassId} {S0 d : Nat} {J : zJ} (q : (Int32 × zHp)) (hd : 3 ≤ d) (X : zOK l D cy S0 d RX9 cX9_riskOf 5 (yX9_riskOf.name == "<init>") 117 117 (some .int) (zRT 117 zRF (some (.int q.1)) q.2) J) : ∀ (a1 : Int32) (b0 : Int32) (h : zHp), s_X9_riskOf_L25 a1 b0 h = some q → J 25 [(0, .ref 0), (1, .int a1)] [.int b0] 117 zRF h := by
  intro a1 b0 h e
  unfold s_X9_riskOf_L25 at e
  refine zv_istore_n (i := 3) (lv' := [(3, .int b0), (0, .ref 0), (1, .int a1)]) X dX9_riskOf_25 rfl (Nat.le_of_ble_eq_true rfl) rfl ?_
  refine zv_aload_n X dX9_riskOf_26 rfl rfl ?_
  refine zv_getR X zf_RX9_36 znt_o zk_0 zb_0 zr_0_6 dX9_riskOf_27 ?_
  refine zv_iload_n X dX9_riskOf_30 rfl rfl ?_
  refine zb e (fun q1 gq1 e => ?_)
  refine zv_callV (stk := [.int a1, .ref 13]) (as := [.int a1]) (st := []) (k := 13) X zl_RX9_304 zm_X4_mouthsOf (k_X4_mouthsOf (d := d - 1) (by omega) gq1) (by omega) zb_13 (by rw [zk_13]; rfl) rfl rfl (Nat.le_of_ble_eq_true rfl) (Nat.le_refl _) rfl dX9_riskOf_31 ?_
  show J 34 [(3, .int b0), (0, .ref 0), (1, .int a1)] [.int q1.1] 117 zRF q1.2
  refine zv_bipush (v := (50 : Int32)) X dX9_riskOf_34 zbp_50 ?_
  refine zb e (fun v2 gv2 e => ?_)
  refine zv_idiv X dX9_riskOf_36 gv2 ?_
  refine zv_istore (i := 4) (lv' := [(4, .int v2), (3, .int b0), (0, .ref 0), (1, .int a1)]) X dX9_riskOf_37 (Nat.le_of_ble_eq_true rfl) rfl ?_
  refine zv_aload_n X dX9_riskOf_39 rfl rfl ?_
  refine zv_getR X zf_RX9_17 znt_a zk_0 zb_0 zr_0_2 dX9_riskOf_40 ?_
  refine zv_aload_n X dX9_riskOf_43 rfl rfl ?_
  refine zv_getR X zf_RX9_36 znt_o zk_0 zb_0 zr_0_6 dX9_riskOf_44 ?_
  refine zv_iload_n X dX9_riskOf_47 rfl rfl ?_
  refine zb e (fun q3 gq3 e => ?_)
  refine zv_callV (stk := [.int a1, .ref 13, .ref 3]) (as := [.int a1]) (st := [.ref 3]) (k := 13) X zl_RX9_307 zm_X4_kindOf (k_X4_kindOf (d := d - 1) (by omega) gq3) (by omega) zb_13 (by rw [zk_13]; rfl) rfl rfl (Nat.le_of_ble_eq_true rfl) (Nat.le_refl _) rfl dX9_riskOf_48 ?_
  show J 51 [(4, .int v2), (3, .int b0), (0, .ref 0), (1, .int a1)] [.int q3.1, .ref 3] 117 zRF q3.2
  refine zb e (fun v4 gv4 e => ?_)
  refine zv_iald X zk_3 zl_3 zb_3 dX9_riskOf_51 gv4 ?_
  refine zv_iload X dX9_riskOf_52 rfl ?_
  refine zv_iadd X dX9_riskOf_54 ?_
  refine zv_bipush (v := (8 : Int32)) X dX9_riskOf_55 zbp_8 ?_
  refine zv_iload_n X dX9_riskOf_57 rfl rfl ?_
  refine zv_imul X dX9_riskOf_58 ?_
  refine zv_iadd X dX9_riskOf_59 ?_
  exact zv_retI X e rfl dX9_riskOf_60
set_option maxRecDepth 100000 in
set_option maxHeartbeats 4000000 in
theorem k_X9_riskOf {l : Launch} {D : va_G} {cy : Nat → ClassId} {S0 d : Nat} (hd : 3 ≤ d) {a1 : Int32} {h : zHp} {q : (Int32 × zHp)} (e : s_X9_riskOf a1 h = some q) : zCT l D cy S0 d yX9_riskOf cX9_riskOf 5 (some .int) [.ref 0, .int a1] 117 zRF h (some (.int q.1)) 117 zRF q.2 := by
  unfold s_X9_riskOf at e
  refine zCT_of RX9 rfl zm_X9_riskOf (Nat.le_refl _) (Nat.le_of_ble_eq_true rfl) (fun J X => ?_)
  show J 0 [(0, .ref 0), (1, .int a1)] [] 117 zRF h
  refine zv_aload_n X dX9_riskOf_0 rfl rfl ?_
  refine zv_iload_n X dX9_riskOf_1 rfl rfl ?_
  refine zv_aload_n X dX9_riskOf_2 rfl rfl ?_
  refine zv_getI X zf_RX9_95 zk_0 zb_0 dX9_riskOf_3 ?_
  refine zv_aload_n X dX9_riskOf_6 rfl rfl ?_
  refine zv_getI X zf_RX9_95 zk_0 zb_0 dX9_riskOf_7 ?_
  refine zb e (fun q1 gq1 e => ?_)
  refine zv_callV (stk := [.int (h.1 0 14), .int (h.1 0 14), .int a1, .ref 0]) (as := [.int a1, .int (h.1 0 14), .int (h.1 0 14)]) (st := []) (k := 0) X zl_RX9_193 zm_X9_starOf (k_X9_starOf (d := d - 1) (by omega) gq1) (by omega) zb_0 (by rw [zk_0]; rfl) rfl rfl (Nat.le_of_ble_eq_true rfl) (Nat.le_refl _) rfl dX9_riskOf_10 ?_
  show J 13 [(0, .ref 0), (1, .int a1)] [.int q1.1] 117 zRF q1.2
  refine zv_istore_n (i := 2) (lv' := [(2, .int q1.1), (0, .ref 0), (1, .int a1)]) X dX9_riskOf_13 rfl (Nat.le_of_ble_eq_true rfl) rfl ?_
  refine zv_iload_n X dX9_riskOf_14 rfl rfl ?_
  refine zv_if_ne (tgt := 22) X dX9_riskOf_15 (by decide) (fun c2 => ?_) (fun c2 => ?_)
  · replace e := zif e c2
    refine zv_iconst (v := (5 : Int32)) X dX9_riskOf_22 zic_5 ?_
    refine zv_iload_n X dX9_riskOf_23 rfl rfl ?_
    refine zv_isub X dX9_riskOf_24 ?_
    exact zv_pick X [1, 2] rfl (k_X9_riskOf_L25 q hd X _ _ _ e)
  · replace e := zit e c2
    refine zv_iconst (v := (3 : Int32)) X dX9_riskOf_18 zic_3 ?_
    refine zv_goto (tgt := 25) X dX9_riskOf_19 (by decide) ?_
    exact zv_pick X [1, 2] rfl (k_X9_riskOf_L25 q hd X _ _ _ e)
-- J9_max_7cf53
def s_J9_max_7cf53_L10 (b0 : Int32) (h : zHp) : Option (Int32 × zHp) :=
  some (b0, h)
def s_J9_max_7cf53 (a0 : Int32) (a1 : Int32) (h : zHp) : Option (Int32 × zHp) :=
  if a0 < a1 then
    s_J9_max_7cf53_L10 a1 h
  else
    s_J9_max_7cf53_L10 a0 h
set_option maxRecDepth 100000 in
set_option maxHeartbeats 4000000 in
theorem k_J9_max_7cf53_L10 {l : Launch} {D : va_G} {cy : Nat → ClassId} {S0 d : Nat} {J : zJ} (q : (Int32 × zHp)) (hd : 0 ≤ d) (X : zOK l D cy S0 d RJ9 cJ9_max_7cf53 2 (yJ9_max_7cf53.name == "<init>") 117 117 (some .int) (zRT 117 zRF (some (.int q.1)) q.2) J) : ∀ (b0 : Int32) (h : zHp), s_J9_max_7cf53_L10 b0 h = some q → J 10 [] [.int b0] 117 zRF h := by
  intro b0 h e
  unfold s_J9_max_7cf53_L10 at e
  exact zv_retI X e rfl dJ9_max_7cf53_10
set_option maxRecDepth 100000 in
set_option maxHeartbeats 4000000 in
theorem k_J9_max_7cf53 {l : Launch} {D : va_G} {cy : Nat → ClassId} {S0 d : Nat} (hd : 0 ≤ d) {a0 : Int32} {a1 : Int32} {h : zHp} {q : (Int32 × zHp)} (e : s_J9_max_7cf53 a0 a1 h = some q) : zCT l D cy S0 d yJ9_max_7cf53 cJ9_max_7cf53 2 (some .int) [.int a0, .int a1] 117 zRF h (some (.int q.1)) 117 zRF q.2 := by
  unfold s_J9_max_7cf53 at e
  refine zCT_of RJ9 rfl zm_J9_max_7cf53 (Nat.le_refl _) (Nat.le_of_ble_eq_true rfl) (fun J X => ?_)
  show J 0 [(0, .int a0), (1, .int a1)] [] 117 zRF h
  refine zv_iload_n X dJ9_max_7cf53_0 rfl rfl ?_
  refine zv_iload_n X dJ9_max_7cf53_1 rfl rfl ?_
  refine zv_icmp_lt (tgt := 9) X dJ9_max_7cf53_2 (by decide) (fun c1 => ?_) (fun c1 => ?_)
  · replace e := zit e c1
    refine zv_iload_n X dJ9_max_7cf53_9 rfl rfl ?_
    exact zv_pick X [] rfl (k_J9_max_7cf53_L10 q hd X _ _ e)
  · replace e := zif e c1
    refine zv_iload_n X dJ9_max_7cf53_5 rfl rfl ?_
    refine zv_goto (tgt := 10) X dJ9_max_7cf53_6 (by decide) ?_
    exact zv_pick X [] rfl (k_J9_max_7cf53_L10 q hd X _ _ e)
-- X9_dueOf
def s_X9_dueOf_L26  (h : zHp) : Option (Int32 × zHp) :=
  some ((0 : Int32), h)
def s_X9_dueOf (a1 : Int32) (a2 : Int32) (h : zHp) : Option (Int32 × zHp) :=
  (s_X5_latestOf a1 (h.1 0 14) (h.1 0 14) h).bind fun q1 =>
  if q1.1 < 0 then
    s_X9_dueOf_L26 q1.2
  else
    if (1 : Int32) ≤ a2 then
      (s_X5_dayOf q1.1 q1.2).bind fun q4 =>
      (zdiv (400 : Int32) a2).bind fun v5 =>
      (s_J9_max_7cf53 (20 : Int32) v5 q4.2).bind fun q6 =>
      some (q4.1 + q6.1, q6.2)
    else
      s_X9_dueOf_L26 q1.2
set_option maxRecDepth 100000 in
set_option maxHeartbeats 4000000 in
theorem k_X9_dueOf_L26 {l : Launch} {D : va_G} {cy : Nat → ClassId} {S0 d : Nat} {J : zJ} (q : (Int32 × zHp)) (hd : 1 ≤ d) (X : zOK l D cy S0 d RX9 cX9_dueOf 4 (yX9_dueOf.name == "<init>") 117 117 (some .int) (zRT 117 zRF (some (.int q.1)) q.2) J) : ∀  (h : zHp), s_X9_dueOf_L26  h = some q → J 26 [] [] 117 zRF h := by
  intro  h e
  unfold s_X9_dueOf_L26 at e
  refine zv_iconst (v := (0 : Int32)) X dX9_dueOf_26 zic_0 ?_
  exact zv_retI X e rfl dX9_dueOf_27
set_option maxRecDepth 100000 in
set_option maxHeartbeats 4000000 in
theorem k_X9_dueOf {l : Launch} {D : va_G} {cy : Nat → ClassId} {S0 d : Nat} (hd : 1 ≤ d) {a1 : Int32} {a2 : Int32} {h : zHp} {q : (Int32 × zHp)} (e : s_X9_dueOf a1 a2 h = some q) : zCT l D cy S0 d yX9_dueOf cX9_dueOf 4 (some .int) [.ref 0, .int a1, .int a2] 117 zRF h (some (.int q.1)) 117 zRF q.2 := by
  unfold s_X9_dueOf at e
  refine zCT_of RX9 rfl zm_X9_dueOf (Nat.le_refl _) (Nat.le_of_ble_eq_true rfl) (fun J X => ?_)
  show J 0 [(0, .ref 0), (1, .int a1), (2, .int a2)] [] 117 zRF h
  refine zv_aload_n X dX9_dueOf_0 rfl rfl ?_
  refine zv_getR X zf_RX9_45 znt_o zk_0 zb_0 zr_0_7 dX9_dueOf_1 ?_
  refine zv_iload_n X dX9_dueOf_4 rfl rfl ?_
  refine zv_aload_n X dX9_dueOf_5 rfl rfl ?_
  refine zv_getI X zf_RX9_95 zk_0 zb_0 dX9_dueOf_6 ?_
  refine zv_aload_n X dX9_dueOf_9 rfl rfl ?_
  refine zv_getI X zf_RX9_95 zk_0 zb_0 dX9_dueOf_10 ?_
  refine zb e (fun q1 gq1 e => ?_)
  refine zv_callV (stk := [.int (h.1 0 14), .int (h.1 0 14), .int a1, .ref 24]) (as := [.int a1, .int (h.1 0 14), .int (h.1 0 14)]) (st := []) (k := 24) X zl_RX9_245 zm_X5_latestOf (k_X5_latestOf (d := d - 1) (by omega) gq1) (by omega) zb_24 (by rw [zk_24]; rfl) rfl rfl (Nat.le_of_ble_eq_true rfl) (Nat.le_refl _) rfl dX9_dueOf_13 ?_
  show J 16 [(0, .ref 0), (1, .int a1), (2, .int a2)] [.int q1.1] 117 zRF q1.2
  refine zv_istore_n (i := 3) (lv' := [(3, .int q1.1), (0, .ref 0), (1, .int a1), (2, .int a2)]) X dX9_dueOf_16 rfl (Nat.le_of_ble_eq_true rfl) rfl ?_
  refine zv_iload_n X dX9_dueOf_17 rfl rfl ?_
  refine zv_if_lt (tgt := 26) X dX9_dueOf_18 (by decide) (fun c2 => ?_) (fun c2 => ?_)
  · replace e := zit e c2
    exact zv_pick X [] rfl (k_X9_dueOf_L26 q hd X  _ e)
  · replace e := zif e c2
    refine zv_iload_n X dX9_dueOf_21 rfl rfl ?_
    refine zv_iconst (v := (1 : Int32)) X dX9_dueOf_22 zic_1 ?_
    refine zv_icmp_ge (tgt := 28) X dX9_dueOf_23 (by decide) (fun c3 => ?_) (fun c3 => ?_)
    · replace e := zit e c3
      refine zv_aload_n X dX9_dueOf_28 rfl rfl ?_
      refine zv_getR X zf_RX9_45 znt_o zk_0 zb_0 zr_0_7 dX9_dueOf_29 ?_
      refine zv_iload_n X dX9_dueOf_32 rfl rfl ?_
      refine zb e (fun q4 gq4 e => ?_)
      refine zv_callV (stk := [.int q1.1, .ref 24]) (as := [.int q1.1]) (st := []) (k := 24) X zl_RX9_172 zm_X5_dayOf (k_X5_dayOf (d := d - 1) (by omega) gq4) (by omega) zb_24 (by rw [zk_24]; rfl) rfl rfl (Nat.le_of_ble_eq_true rfl) (Nat.le_refl _) rfl dX9_dueOf_33 ?_
      show J 36 [(3, .int q1.1), (0, .ref 0), (1, .int a1), (2, .int a2)] [.int q4.1] 117 zRF q4.2
      refine zv_bipush (v := (20 : Int32)) X dX9_dueOf_36 zbp_20 ?_
      refine zv_sipush (v := (400 : Int32)) X dX9_dueOf_38 zsp_400 ?_
      refine zv_iload_n X dX9_dueOf_41 rfl rfl ?_
      refine zb e (fun v5 gv5 e => ?_)
      refine zv_idiv X dX9_dueOf_42 gv5 ?_
      refine zb e (fun q6 gq6 e => ?_)
      refine zv_callS (stk := [.int v5, .int (20 : Int32), .int q4.1]) (as := [.int (20 : Int32), .int v5]) (st := [.int q4.1]) X zl_RX9_310 zm_J9_max_7cf53 (k_J9_max_7cf53 (d := d - 1) (by omega) gq6) (by omega) rfl (Nat.le_of_ble_eq_true rfl) (Nat.le_refl _) rfl dX9_dueOf_43 ?_
      show J 46 [(3, .int q1.1), (0, .ref 0), (1, .int a1), (2, .int a2)] [.int q6.1, .int q4.1] 117 zRF q6.2
      refine zv_iadd X dX9_dueOf_46 ?_
      exact zv_retI X e rfl dX9_dueOf_47
    · replace e := zif e c3
      exact zv_pick X [] rfl (k_X9_dueOf_L26 q hd X  _ e)
-- X9_risk
def s_X9_risk (a1 : Int32) (a2 : Int32) (h : zHp) : Option (Int32 × zHp) :=
  (s_X4_has a1 h).bind fun q1 =>
  if q1.1 = 0 then
    (s_X9_refused (-1 : Int32) q1.2).bind fun q9 =>
    some (q9.1, q9.2)
  else
    if a2 = 0 then
      (s_X9_riskOf a1 q1.2).bind fun q8 =>
      some (q8.1, q8.2)
    else
      if a2 = (1 : Int32) then
        (s_X9_riskOf a1 q1.2).bind fun q6 =>
        (s_X9_dueOf a1 q6.1 q6.2).bind fun q7 =>
        some (q7.1, q7.2)
      else
        (s_X9_refused (-2 : Int32) q1.2).bind fun q5 =>
        some (q5.1, q5.2)
set_option maxRecDepth 100000 in
set_option maxHeartbeats 4000000 in
theorem k_X9_risk {l : Launch} {D : va_G} {cy : Nat → ClassId} {S0 d : Nat} (hd : 4 ≤ d) {a1 : Int32} {a2 : Int32} {h : zHp} {q : (Int32 × zHp)} (e : s_X9_risk a1 a2 h = some q) : zCT l D cy S0 d yX9_risk cX9_risk 3 (some .int) [.ref 0, .int a1, .int a2] 117 zRF h (some (.int q.1)) 117 zRF q.2 := by
  unfold s_X9_risk at e
  refine zCT_of RX9 rfl zm_X9_risk (Nat.le_refl _) (Nat.le_of_ble_eq_true rfl) (fun J X => ?_)
  show J 0 [(0, .ref 0), (1, .int a1), (2, .int a2)] [] 117 zRF h
  refine zv_aload_n X dX9_risk_0 rfl rfl ?_
  refine zv_getR X zf_RX9_36 znt_o zk_0 zb_0 zr_0_6 dX9_risk_1 ?_
  refine zv_iload_n X dX9_risk_4 rfl rfl ?_
  refine zb e (fun q1 gq1 e => ?_)
  refine zv_callV (stk := [.int a1, .ref 13]) (as := [.int a1]) (st := []) (k := 13) X zl_RX9_146 zm_X4_has (k_X4_has (d := d - 1) (by omega) gq1) (by omega) zb_13 (by rw [zk_13]; rfl) rfl rfl (Nat.le_of_ble_eq_true rfl) (Nat.le_refl _) rfl dX9_risk_5 ?_
  show J 8 [(0, .ref 0), (1, .int a1), (2, .int a2)] [.int q1.1] 117 zRF q1.2
  refine zv_if_ne (tgt := 17) X dX9_risk_8 (by decide) (fun c2 => ?_) (fun c2 => ?_)
  · replace e := zif e c2
    refine zv_iload_n X dX9_risk_17 rfl rfl ?_
    refine zv_if_ne (tgt := 27) X dX9_risk_18 (by decide) (fun c3 => ?_) (fun c3 => ?_)
    · replace e := zif e c3
      refine zv_iload_n X dX9_risk_27 rfl rfl ?_
      refine zv_iconst (v := (1 : Int32)) X dX9_risk_28 zic_1 ?_
      refine zv_icmp_ne (tgt := 43) X dX9_risk_29 (by decide) (fun c4 => ?_) (fun c4 => ?_)
      · replace e := zif e c4
        refine zv_aload_n X dX9_risk_43 rfl rfl ?_
        refine zv_bipush (v := (-2 : Int32)) X dX9_risk_44 zbp_m2 ?_
        refine zb e (fun q5 gq5 e => ?_)
        refine zv_callV (stk := [.int (-2 : Int32), .ref 0]) (as := [.int (-2 : Int32)]) (st := []) (k := 0) X zl_RX9_108 zm_X9_refused (k_X9_refused (d := d - 1) (by omega) gq5) (by omega) zb_0 (by rw [zk_0]; rfl) rfl rfl (Nat.le_of_ble_eq_true rfl) (Nat.le_refl _) rfl dX9_risk_46 ?_
        show J 49 [(0, .ref 0), (1, .int a1), (2, .int a2)] [.int q5.1] 117 zRF q5.2
        exact zv_retI X e rfl dX9_risk_49
      · replace e := zit e c4
        refine zv_aload_n X dX9_risk_32 rfl rfl ?_
        refine zv_iload_n X dX9_risk_33 rfl rfl ?_
        refine zv_aload_n X dX9_risk_34 rfl rfl ?_
        refine zv_iload_n X dX9_risk_35 rfl rfl ?_
        refine zb e (fun q6 gq6 e => ?_)
        refine zv_callV (stk := [.int a1, .ref 0, .int a1, .ref 0]) (as := [.int a1]) (st := [.int a1, .ref 0]) (k := 0) X zl_RX9_203 zm_X9_riskOf (k_X9_riskOf (d := d - 1) (by omega) gq6) (by omega) zb_0 (by rw [zk_0]; rfl) rfl rfl (Nat.le_of_ble_eq_true rfl) (Nat.le_refl _) rfl dX9_risk_36 ?_
        show J 39 [(0, .ref 0), (1, .int a1), (2, .int a2)] [.int q6.1, .int a1, .ref 0] 117 zRF q6.2
        refine zb e (fun q7 gq7 e => ?_)
        refine zv_callV (stk := [.int q6.1, .int a1, .ref 0]) (as := [.int a1, .int q6.1]) (st := []) (k := 0) X zl_RX9_206 zm_X9_dueOf (k_X9_dueOf (d := d - 1) (by omega) gq7) (by omega) zb_0 (by rw [zk_0]; rfl) rfl rfl (Nat.le_of_ble_eq_true rfl) (Nat.le_refl _) rfl dX9_risk_39 ?_
        show J 42 [(0, .ref 0), (1, .int a1), (2, .int a2)] [.int q7.1] 117 zRF q7.2
        exact zv_retI X e rfl dX9_risk_42
    · replace e := zit e c3
      refine zv_aload_n X dX9_risk_21 rfl rfl ?_
      refine zv_iload_n X dX9_risk_22 rfl rfl ?_
      refine zb e (fun q8 gq8 e => ?_)
      refine zv_callV (stk := [.int a1, .ref 0]) (as := [.int a1]) (st := []) (k := 0) X zl_RX9_203 zm_X9_riskOf (k_X9_riskOf (d := d - 1) (by omega) gq8) (by omega) zb_0 (by rw [zk_0]; rfl) rfl rfl (Nat.le_of_ble_eq_true rfl) (Nat.le_refl _) rfl dX9_risk_23 ?_
      show J 26 [(0, .ref 0), (1, .int a1), (2, .int a2)] [.int q8.1] 117 zRF q8.2
      exact zv_retI X e rfl dX9_risk_26
  · replace e := zit e c2
    refine zv_aload_n X dX9_risk_11 rfl rfl ?_
    refine zv_iconst (v := (-1 : Int32)) X dX9_risk_12 zic_m1 ?_
    refine zb e (fun q9 gq9 e => ?_)
    refine zv_callV (stk := [.int (-1 : Int32), .ref 0]) (as := [.int (-1 : Int32)]) (st := []) (k := 0) X zl_RX9_108 zm_X9_refused (k_X9_refused (d := d - 1) (by omega) gq9) (by omega) zb_0 (by rw [zk_0]; rfl) rfl rfl (Nat.le_of_ble_eq_true rfl) (Nat.le_refl _) rfl dX9_risk_13 ?_
    show J 16 [(0, .ref 0), (1, .int a1), (2, .int a2)] [.int q9.1] 117 zRF q9.2
    exact zv_retI X e rfl dX9_risk_16
-- X10_riskOf
def s_X10_riskOf_L48 (b0 : Int32) (b1 : Int32) (b2 : Int32) (h : zHp) : Option (Int32 × zHp) :=
  some (b0 + (b1 * b2), h)
def s_X10_riskOf (a1 : Int32) (h : zHp) : Option (Int32 × zHp) :=
  (s_X10_starOf a1 (h.1 67 0) (h.1 67 0) h).bind fun q1 =>
  (zri q1.2 74 20 a1).bind fun v2 =>
  (zri q1.2 92 4 v2).bind fun v3 =>
  (zri q1.2 76 20 a1).bind fun v4 =>
  (zdiv v4 (50 : Int32)).bind fun v5 =>
  if q1.1 = 0 then
    s_X10_riskOf_L48 (v3 + v5) (8 : Int32) (3 : Int32) q1.2
  else
    s_X10_riskOf_L48 (v3 + v5) (8 : Int32) ((5 : Int32) - q1.1) q1.2
set_option maxRecDepth 100000 in
set_option maxHeartbeats 4000000 in
theorem k_X10_riskOf_L48 {l : Launch} {D : va_G} {cy : Nat → ClassId} {S0 d : Nat} {J : zJ} (q : (Int32 × zHp)) (hd : 3 ≤ d) (X : zOK l D cy S0 d RX10 cX10_riskOf 3 (yX10_riskOf.name == "<init>") 117 117 (some .int) (zRT 117 zRF (some (.int q.1)) q.2) J) : ∀ (b0 : Int32) (b1 : Int32) (b2 : Int32) (h : zHp), s_X10_riskOf_L48 b0 b1 b2 h = some q → J 48 [] [.int b2, .int b1, .int b0] 117 zRF h := by
  intro b0 b1 b2 h e
  unfold s_X10_riskOf_L48 at e
  refine zv_imul X dX10_riskOf_48 ?_
  refine zv_iadd X dX10_riskOf_49 ?_
  exact zv_retI X e rfl dX10_riskOf_50
set_option maxRecDepth 100000 in
set_option maxHeartbeats 4000000 in
theorem k_X10_riskOf {l : Launch} {D : va_G} {cy : Nat → ClassId} {S0 d : Nat} (hd : 3 ≤ d) {a1 : Int32} {h : zHp} {q : (Int32 × zHp)} (e : s_X10_riskOf a1 h = some q) : zCT l D cy S0 d yX10_riskOf cX10_riskOf 3 (some .int) [.ref 67, .int a1] 117 zRF h (some (.int q.1)) 117 zRF q.2 := by
  unfold s_X10_riskOf at e
  refine zCT_of RX10 rfl zm_X10_riskOf (Nat.le_refl _) (Nat.le_of_ble_eq_true rfl) (fun J X => ?_)
  show J 0 [(0, .ref 67), (1, .int a1)] [] 117 zRF h
  refine zv_aload_n X dX10_riskOf_0 rfl rfl ?_
  refine zv_iload_n X dX10_riskOf_1 rfl rfl ?_
  refine zv_aload_n X dX10_riskOf_2 rfl rfl ?_
  refine zv_getI X zf_RX10_179 zk_67 zb_67 dX10_riskOf_3 ?_
  refine zv_aload_n X dX10_riskOf_6 rfl rfl ?_
  refine zv_getI X zf_RX10_179 zk_67 zb_67 dX10_riskOf_7 ?_
  refine zb e (fun q1 gq1 e => ?_)
  refine zv_callV (stk := [.int (h.1 67 0), .int (h.1 67 0), .int a1, .ref 67]) (as := [.int a1, .int (h.1 67 0), .int (h.1 67 0)]) (st := []) (k := 67) X zl_RX10_220 zm_X10_starOf (k_X10_starOf (d := d - 1) (by omega) gq1) (by omega) zb_67 (by rw [zk_67]; rfl) rfl rfl (Nat.le_of_ble_eq_true rfl) (Nat.le_refl _) rfl dX10_riskOf_10 ?_
  show J 13 [(0, .ref 67), (1, .int a1)] [.int q1.1] 117 zRF q1.2
  refine zv_istore_n (i := 2) (lv' := [(2, .int q1.1), (0, .ref 67), (1, .int a1)]) X dX10_riskOf_13 rfl (Nat.le_of_ble_eq_true rfl) rfl ?_
  refine zv_aload_n X dX10_riskOf_14 rfl rfl ?_
  refine zv_getR X zf_RX10_83 znt_a zk_67 zb_67 zr_67_29 dX10_riskOf_15 ?_
  refine zv_aload_n X dX10_riskOf_18 rfl rfl ?_
  refine zv_getR X zf_RX10_28 znt_a zk_67 zb_67 zr_67_9 dX10_riskOf_19 ?_
  refine zv_iload_n X dX10_riskOf_22 rfl rfl ?_
  refine zb e (fun v2 gv2 e => ?_)
  refine zv_iald X zk_74 zl_74 zb_74 dX10_riskOf_23 gv2 ?_
  refine zb e (fun v3 gv3 e => ?_)
  refine zv_iald X zk_92 zl_92 zb_92 dX10_riskOf_24 gv3 ?_
  refine zv_aload_n X dX10_riskOf_25 rfl rfl ?_
  refine zv_getR X zf_RX10_34 znt_a zk_67 zb_67 zr_67_11 dX10_riskOf_26 ?_
  refine zv_iload_n X dX10_riskOf_29 rfl rfl ?_
  refine zb e (fun v4 gv4 e => ?_)
  refine zv_iald X zk_76 zl_76 zb_76 dX10_riskOf_30 gv4 ?_
  refine zv_bipush (v := (50 : Int32)) X dX10_riskOf_31 zbp_50 ?_
  refine zb e (fun v5 gv5 e => ?_)
  refine zv_idiv X dX10_riskOf_33 gv5 ?_
  refine zv_iadd X dX10_riskOf_34 ?_
  refine zv_bipush (v := (8 : Int32)) X dX10_riskOf_35 zbp_8 ?_
  refine zv_iload_n X dX10_riskOf_37 rfl rfl ?_
  refine zv_if_ne (tgt := 45) X dX10_riskOf_38 (by decide) (fun c6 => ?_) (fun c6 => ?_)
  · replace e := zif e c6
    refine zv_iconst (v := (5 : Int32)) X dX10_riskOf_45 zic_5 ?_
    refine zv_iload_n X dX10_riskOf_46 rfl rfl ?_
    refine zv_isub X dX10_riskOf_47 ?_
    exact zv_pick X [] rfl (k_X10_riskOf_L48 q hd X _ _ _ _ e)
  · replace e := zit e c6
    refine zv_iconst (v := (3 : Int32)) X dX10_riskOf_41 zic_3 ?_
    refine zv_goto (tgt := 48) X dX10_riskOf_42 (by decide) ?_
    exact zv_pick X [] rfl (k_X10_riskOf_L48 q hd X _ _ _ _ e)
-- X10_dueOf
def s_X10_dueOf_L51 (b0 : Int32) (h : zHp) : Option (Int32 × zHp) :=
  some (b0, h)
def s_X10_dueOf_L50 (b0 : Int32) (b1 : Int32) (h : zHp) : Option (Int32 × zHp) :=
  s_X10_dueOf_L51 (b0 + b1) h
def s_X10_dueOf (a1 : Int32) (h : zHp) : Option (Int32 × zHp) :=
  (s_X10_lookOn a1 (h.1 67 0) (h.1 67 0) h).bind fun q1 =>
  (s_X10_riskOf a1 q1.2).bind fun q2 =>
  (zdiv (400 : Int32) q2.1).bind fun v3 =>
  if 0 ≤ q1.1 then
    (zri q2.2 84 80 q1.1).bind fun v5 =>
    if (20 : Int32) ≤ v3 then
      s_X10_dueOf_L50 v5 v3 q2.2
    else
      s_X10_dueOf_L50 v5 (20 : Int32) q2.2
  else
    s_X10_dueOf_L51 (0 : Int32) q2.2
set_option maxRecDepth 100000 in
set_option maxHeartbeats 4000000 in
theorem k_X10_dueOf_L51 {l : Launch} {D : va_G} {cy : Nat → ClassId} {S0 d : Nat} {J : zJ} (q : (Int32 × zHp)) (hd : 4 ≤ d) (X : zOK l D cy S0 d RX10 cX10_dueOf 4 (yX10_dueOf.name == "<init>") 117 117 (some .int) (zRT 117 zRF (some (.int q.1)) q.2) J) : ∀ (b0 : Int32) (h : zHp), s_X10_dueOf_L51 b0 h = some q → J 51 [] [.int b0] 117 zRF h := by
  intro b0 h e
  unfold s_X10_dueOf_L51 at e
  exact zv_retI X e rfl dX10_dueOf_51
set_option maxRecDepth 100000 in
set_option maxHeartbeats 4000000 in
theorem k_X10_dueOf_L50 {l : Launch} {D : va_G} {cy : Nat → ClassId} {S0 d : Nat} {J : zJ} (q : (Int32 × zHp)) (hd : 4 ≤ d) (X : zOK l D cy S0 d RX10 cX10_dueOf 4 (yX10_dueOf.name == "<init>") 117 117 (some .int) (zRT 117 zRF (some (.int q.1)) q.2) J) : ∀ (b0 : Int32) (b1 : Int32) (h : zHp), s_X10_dueOf_L50 b0 b1 h = some q → J 50 [] [.int b1, .int b0] 117 zRF h := by
  intro b0 b1 h e
  unfold s_X10_dueOf_L50 at e
  refine zv_iadd X dX10_dueOf_50 ?_
  exact k_X10_dueOf_L51 q hd X _ _ e
set_option maxRecDepth 100000 in
set_option maxHeartbeats 4000000 in
theorem k_X10_dueOf {l : Launch} {D : va_G} {cy : Nat → ClassId} {S0 d : Nat} (hd : 4 ≤ d) {a1 : Int32} {h : zHp} {q : (Int32 × zHp)} (e : s_X10_dueOf a1 h = some q) : zCT l D cy S0 d yX10_dueOf cX10_dueOf 4 (some .int) [.ref 67, .int a1] 117 zRF h (some (.int q.1)) 117 zRF q.2 := by
  unfold s_X10_dueOf at e
  refine zCT_of RX10 rfl zm_X10_dueOf (Nat.le_refl _) (Nat.le_of_ble_eq_true rfl) (fun J X => ?_)
  show J 0 [(0, .ref 67), (1, .int a1)] [] 117 zRF h
  refine zv_aload_n X dX10_dueOf_0 rfl rfl ?_
  refine zv_iload_n X dX10_dueOf_1 rfl rfl ?_
  refine zv_aload_n X dX10_dueOf_2 rfl rfl ?_
  refine zv_getI X zf_RX10_179 zk_67 zb_67 dX10_dueOf_3 ?_
  refine zv_aload_n X dX10_dueOf_6 rfl rfl ?_
  refine zv_getI X zf_RX10_179 zk_67 zb_67 dX10_dueOf_7 ?_
  refine zb e (fun q1 gq1 e => ?_)
  refine zv_callV (stk := [.int (h.1 67 0), .int (h.1 67 0), .int a1, .ref 67]) (as := [.int a1, .int (h.1 67 0), .int (h.1 67 0)]) (st := []) (k := 67) X zl_RX10_212 zm_X10_lookOn (k_X10_lookOn (d := d - 1) (by omega) gq1) (by omega) zb_67 (by rw [zk_67]; rfl) rfl rfl (Nat.le_of_ble_eq_true rfl) (Nat.le_refl _) rfl dX10_dueOf_10 ?_
  show J 13 [(0, .ref 67), (1, .int a1)] [.int q1.1] 117 zRF q1.2
  refine zv_istore_n (i := 2) (lv' := [(2, .int q1.1), (0, .ref 67), (1, .int a1)]) X dX10_dueOf_13 rfl (Nat.le_of_ble_eq_true rfl) rfl ?_
  refine zv_sipush (v := (400 : Int32)) X dX10_dueOf_14 zsp_400 ?_
  refine zv_aload_n X dX10_dueOf_17 rfl rfl ?_
  refine zv_iload_n X dX10_dueOf_18 rfl rfl ?_
  refine zb e (fun q2 gq2 e => ?_)
  refine zv_callV (stk := [.int a1, .ref 67, .int (400 : Int32)]) (as := [.int a1]) (st := [.int (400 : Int32)]) (k := 67) X zl_RX10_223 zm_X10_riskOf (k_X10_riskOf (d := d - 1) (by omega) gq2) (by omega) zb_67 (by rw [zk_67]; rfl) rfl rfl (Nat.le_of_ble_eq_true rfl) (Nat.le_refl _) rfl dX10_dueOf_19 ?_
  show J 22 [(2, .int q1.1), (0, .ref 67), (1, .int a1)] [.int q2.1, .int (400 : Int32)] 117 zRF q2.2
  refine zb e (fun v3 gv3 e => ?_)
  refine zv_idiv X dX10_dueOf_22 gv3 ?_
  refine zv_istore_n (i := 3) (lv' := [(3, .int v3), (2, .int q1.1), (0, .ref 67), (1, .int a1)]) X dX10_dueOf_23 rfl (Nat.le_of_ble_eq_true rfl) rfl ?_
  refine zv_iload_n X dX10_dueOf_24 rfl rfl ?_
  refine zv_if_ge (tgt := 32) X dX10_dueOf_25 (by decide) (fun c4 => ?_) (fun c4 => ?_)
  · replace e := zit e c4
    refine zv_aload_n X dX10_dueOf_32 rfl rfl ?_
    refine zv_getR X zf_RX10_59 znt_a zk_67 zb_67 zr_67_20 dX10_dueOf_33 ?_
    refine zv_iload_n X dX10_dueOf_36 rfl rfl ?_
    refine zb e (fun v5 gv5 e => ?_)
    refine zv_iald X zk_84 zl_84 zb_84 dX10_dueOf_37 gv5 ?_
    refine zv_iload_n X dX10_dueOf_38 rfl rfl ?_
    refine zv_bipush (v := (20 : Int32)) X dX10_dueOf_39 zbp_20 ?_
    refine zv_icmp_ge (tgt := 49) X dX10_dueOf_41 (by decide) (fun c6 => ?_) (fun c6 => ?_)
    · replace e := zit e c6
      refine zv_iload_n X dX10_dueOf_49 rfl rfl ?_
      exact zv_pick X [] rfl (k_X10_dueOf_L50 q hd X _ _ _ e)
    · replace e := zif e c6
      refine zv_bipush (v := (20 : Int32)) X dX10_dueOf_44 zbp_20 ?_
      refine zv_goto (tgt := 50) X dX10_dueOf_46 (by decide) ?_
      exact zv_pick X [] rfl (k_X10_dueOf_L50 q hd X _ _ _ e)
  · replace e := zif e c4
    refine zv_iconst (v := (0 : Int32)) X dX10_dueOf_28 zic_0 ?_
    refine zv_goto (tgt := 51) X dX10_dueOf_29 (by decide) ?_
    exact zv_pick X [] rfl (k_X10_dueOf_L51 q hd X _ _ e)
-- X10_risk
def s_X10_risk_L47 (b0 : Int32) (h : zHp) : Option (Int32 × zHp) :=
  some (b0, h)
def s_X10_risk (a1 : Int32) (a2 : Int32) (h : zHp) : Option (Int32 × zHp) :=
  (s_X10_isKitchen a1 h).bind fun q1 =>
  if q1.1 = 0 then
    (s_X10_refuse (-1 : Int32) q1.2).bind fun q9 =>
    some (q9.1, q9.2)
  else
    (s_X10_in a2 (0 : Int32) (1 : Int32) q1.2).bind fun q3 =>
    if q3.1 = 0 then
      (s_X10_refuse (-2 : Int32) q3.2).bind fun q8 =>
      some (q8.1, q8.2)
    else
      if a2 = 0 then
        (s_X10_riskOf a1 q3.2).bind fun q7 =>
        s_X10_risk_L47 q7.1 q7.2
      else
        (s_X10_dueOf a1 q3.2).bind fun q6 =>
        s_X10_risk_L47 q6.1 q6.2
set_option maxRecDepth 100000 in
set_option maxHeartbeats 4000000 in
theorem k_X10_risk_L47 {l : Launch} {D : va_G} {cy : Nat → ClassId} {S0 d : Nat} {J : zJ} (q : (Int32 × zHp)) (hd : 5 ≤ d) (X : zOK l D cy S0 d RX10 cX10_risk 3 (yX10_risk.name == "<init>") 117 117 (some .int) (zRT 117 zRF (some (.int q.1)) q.2) J) : ∀ (b0 : Int32) (h : zHp), s_X10_risk_L47 b0 h = some q → J 47 [] [.int b0] 117 zRF h := by
  intro b0 h e
  unfold s_X10_risk_L47 at e
  exact zv_retI X e rfl dX10_risk_47
set_option maxRecDepth 100000 in
set_option maxHeartbeats 4000000 in
theorem k_X10_risk {l : Launch} {D : va_G} {cy : Nat → ClassId} {S0 d : Nat} (hd : 5 ≤ d) {a1 : Int32} {a2 : Int32} {h : zHp} {q : (Int32 × zHp)} (e : s_X10_risk a1 a2 h = some q) : zCT l D cy S0 d yX10_risk cX10_risk 3 (some .int) [.ref 67, .int a1, .int a2] 117 zRF h (some (.int q.1)) 117 zRF q.2 := by
  unfold s_X10_risk at e
  refine zCT_of RX10 rfl zm_X10_risk (Nat.le_refl _) (Nat.le_of_ble_eq_true rfl) (fun J X => ?_)
  show J 0 [(0, .ref 67), (1, .int a1), (2, .int a2)] [] 117 zRF h
  refine zv_aload_n X dX10_risk_0 rfl rfl ?_
  refine zv_iload_n X dX10_risk_1 rfl rfl ?_
  refine zb e (fun q1 gq1 e => ?_)
  refine zv_callV (stk := [.int a1, .ref 67]) (as := [.int a1]) (st := []) (k := 67) X zl_RX10_196 zm_X10_isKitchen (k_X10_isKitchen (d := d - 1) (by omega) gq1) (by omega) zb_67 (by rw [zk_67]; rfl) rfl rfl (Nat.le_of_ble_eq_true rfl) (Nat.le_refl _) rfl dX10_risk_2 ?_
  show J 5 [(0, .ref 67), (1, .int a1), (2, .int a2)] [.int q1.1] 117 zRF q1.2
  refine zv_if_ne (tgt := 14) X dX10_risk_5 (by decide) (fun c2 => ?_) (fun c2 => ?_)
  · replace e := zif e c2
    refine zv_iload_n X dX10_risk_14 rfl rfl ?_
    refine zv_iconst (v := (0 : Int32)) X dX10_risk_15 zic_0 ?_
    refine zv_iconst (v := (1 : Int32)) X dX10_risk_16 zic_1 ?_
    refine zb e (fun q3 gq3 e => ?_)
    refine zv_callS (stk := [.int (1 : Int32), .int (0 : Int32), .int a2]) (as := [.int a2, .int (0 : Int32), .int (1 : Int32)]) (st := []) X zl_RX10_168 zm_X10_in (k_X10_in (d := d - 1) (by omega) gq3) (by omega) rfl (Nat.le_of_ble_eq_true rfl) (Nat.le_refl _) rfl dX10_risk_17 ?_
    show J 20 [(0, .ref 67), (1, .int a1), (2, .int a2)] [.int q3.1] 117 zRF q3.2
    refine zv_if_ne (tgt := 30) X dX10_risk_20 (by decide) (fun c4 => ?_) (fun c4 => ?_)
    · replace e := zif e c4
      refine zv_iload_n X dX10_risk_30 rfl rfl ?_
      refine zv_if_ne (tgt := 42) X dX10_risk_31 (by decide) (fun c5 => ?_) (fun c5 => ?_)
      · replace e := zif e c5
        refine zv_aload_n X dX10_risk_42 rfl rfl ?_
        refine zv_iload_n X dX10_risk_43 rfl rfl ?_
        refine zb e (fun q6 gq6 e => ?_)
        refine zv_callV (stk := [.int a1, .ref 67]) (as := [.int a1]) (st := []) (k := 67) X zl_RX10_226 zm_X10_dueOf (k_X10_dueOf (d := d - 1) (by omega) gq6) (by omega) zb_67 (by rw [zk_67]; rfl) rfl rfl (Nat.le_of_ble_eq_true rfl) (Nat.le_refl _) rfl dX10_risk_44 ?_
        show J 47 [(0, .ref 67), (1, .int a1), (2, .int a2)] [.int q6.1] 117 zRF q6.2
        exact zv_pick X [] rfl (k_X10_risk_L47 q hd X _ _ e)
      · replace e := zit e c5
        refine zv_aload_n X dX10_risk_34 rfl rfl ?_
        refine zv_iload_n X dX10_risk_35 rfl rfl ?_
        refine zb e (fun q7 gq7 e => ?_)
        refine zv_callV (stk := [.int a1, .ref 67]) (as := [.int a1]) (st := []) (k := 67) X zl_RX10_223 zm_X10_riskOf (k_X10_riskOf (d := d - 1) (by omega) gq7) (by omega) zb_67 (by rw [zk_67]; rfl) rfl rfl (Nat.le_of_ble_eq_true rfl) (Nat.le_refl _) rfl dX10_risk_36 ?_
        show J 39 [(0, .ref 67), (1, .int a1), (2, .int a2)] [.int q7.1] 117 zRF q7.2
        refine zv_goto (tgt := 47) X dX10_risk_39 (by decide) ?_
        exact zv_pick X [] rfl (k_X10_risk_L47 q hd X _ _ e)
    · replace e := zit e c4
      refine zv_aload_n X dX10_risk_23 rfl rfl ?_
      refine zv_bipush (v := (-2 : Int32)) X dX10_risk_24 zbp_m2 ?_
      refine zb e (fun q8 gq8 e => ?_)
      refine zv_callV (stk := [.int (-2 : Int32), .ref 67]) (as := [.int (-2 : Int32)]) (st := []) (k := 67) X zl_RX10_175 zm_X10_refuse (k_X10_refuse (d := d - 1) (by omega) gq8) (by omega) zb_67 (by rw [zk_67]; rfl) rfl rfl (Nat.le_of_ble_eq_true rfl) (Nat.le_refl _) rfl dX10_risk_26 ?_
      show J 29 [(0, .ref 67), (1, .int a1), (2, .int a2)] [.int q8.1] 117 zRF q8.2
      exact zv_retI X e rfl dX10_risk_29
  · replace e := zit e c2
    refine zv_aload_n X dX10_risk_8 rfl rfl ?_
    refine zv_iconst (v := (-1 : Int32)) X dX10_risk_9 zic_m1 ?_
    refine zb e (fun q9 gq9 e => ?_)
    refine zv_callV (stk := [.int (-1 : Int32), .ref 67]) (as := [.int (-1 : Int32)]) (st := []) (k := 67) X zl_RX10_175 zm_X10_refuse (k_X10_refuse (d := d - 1) (by omega) gq9) (by omega) zb_67 (by rw [zk_67]; rfl) rfl rfl (Nat.le_of_ble_eq_true rfl) (Nat.le_refl _) rfl dX10_risk_10 ?_
    show J 13 [(0, .ref 67), (1, .int a1), (2, .int a2)] [.int q9.1] 117 zRF q9.2
    exact zv_retI X e rfl dX10_risk_13
-- X9_delayCost
def s_X9_delayCost_L24 : Nat → Int32 → Int32 → Int32 → zHp → Option (Int32 × zHp)
  | 0, _, _, _, _ => none
  | f + 1, a3, a4, a5, h =>
  if a4 ≤ a5 then
    some (a3, h)
  else
    (zdiv a3 (10 : Int32)).bind fun v2 =>
    (some (a3 + v2)).bind fun v3 =>
    s_X9_delayCost_L24 f v3 a4 (a5 + (1 : Int32)) h
def s_X9_delayCost (a0 : Int32) (a1 : Int32) (a2 : Int32) (h : zHp) : Option (Int32 × zHp) :=
  if a1 < a2 then
    (some (a0 * (a2 - a1))).bind fun v2 =>
    (zdiv (a2 - a1) (30 : Int32)).bind fun v3 =>
    s_X9_delayCost_L24 zFU v2 v3 (0 : Int32) h
  else
    some ((0 : Int32), h)
set_option maxRecDepth 100000 in
set_option maxHeartbeats 4000000 in
theorem k_X9_delayCost_L24 {l : Launch} {D : va_G} {cy : Nat → ClassId} {S0 d : Nat} {J : zJ} (q : (Int32 × zHp)) (hd : 0 ≤ d) (X : zOK l D cy S0 d RX9 cX9_delayCost 6 (yX9_delayCost.name == "<init>") 117 117 (some .int) (zRT 117 zRF (some (.int q.1)) q.2) J) : ∀ (f : Nat) (a3 : Int32) (a4 : Int32) (a5 : Int32) (h : zHp), s_X9_delayCost_L24 f a3 a4 a5 h = some q → J 24 [(3, .int a3), (4, .int a4), (5, .int a5)] [] 117 zRF h := by
  intro f
  induction f with
  | zero => intro _ _ _ h e; exact absurd e (fun z => by cases z)
  | succ f ih =>
    intro a3 a4 a5 h e
    rw [s_X9_delayCost_L24] at e
    refine zv_iload X dX9_delayCost_24 rfl ?_
    refine zv_iload X dX9_delayCost_26 rfl ?_
    refine zv_icmp_ge (tgt := 44) X dX9_delayCost_28 (by decide) (fun c1 => ?_) (fun c1 => ?_)
    · replace e := zit e c1
      refine zv_iload_n X dX9_delayCost_44 rfl rfl ?_
      exact zv_retI X e rfl dX9_delayCost_45
    · replace e := zif e c1
      refine zv_iload_n X dX9_delayCost_31 rfl rfl ?_
      refine zv_iload_n X dX9_delayCost_32 rfl rfl ?_
      refine zv_bipush (v := (10 : Int32)) X dX9_delayCost_33 zbp_10 ?_
      refine zb e (fun v2 gv2 e => ?_)
      refine zv_idiv X dX9_delayCost_35 gv2 ?_
      refine zv_iadd X dX9_delayCost_36 ?_
      refine zb e (fun v3 gv3 e => ?_)
      refine zv_nmI X gv3 ?_
      refine zv_istore_n (i := 3) (lv' := [(3, .int v3), (4, .int a4), (5, .int a5)]) X dX9_delayCost_37 rfl (Nat.le_of_ble_eq_true rfl) rfl ?_
      refine zv_iinc (k := 2) (v := a5 + (1 : Int32)) (lv' := [(5, .int (a5 + (1 : Int32))), (3, .int v3), (4, .int a4)]) X dX9_delayCost_38 rfl rfl (Nat.le_of_ble_eq_true rfl) rfl ?_
      refine zv_goto (tgt := 24) X dX9_delayCost_41 (by decide) ?_
      exact zv_pick X [1, 2, 0] rfl (ih _ _ _ _ e)
set_option maxRecDepth 100000 in
set_option maxHeartbeats 4000000 in
theorem k_X9_delayCost {l : Launch} {D : va_G} {cy : Nat → ClassId} {S0 d : Nat} (hd : 0 ≤ d) {a0 : Int32} {a1 : Int32} {a2 : Int32} {h : zHp} {q : (Int32 × zHp)} (e : s_X9_delayCost a0 a1 a2 h = some q) : zCT l D cy S0 d yX9_delayCost cX9_delayCost 6 (some .int) [.int a0, .int a1, .int a2] 117 zRF h (some (.int q.1)) 117 zRF q.2 := by
  unfold s_X9_delayCost at e
  refine zCT_of RX9 rfl zm_X9_delayCost (Nat.le_refl _) (Nat.le_of_ble_eq_true rfl) (fun J X => ?_)
  show J 0 [(0, .int a0), (1, .int a1), (2, .int a2)] [] 117 zRF h
  refine zv_iload_n X dX9_delayCost_0 rfl rfl ?_
  refine zv_iload_n X dX9_delayCost_1 rfl rfl ?_
  refine zv_icmp_gt (tgt := 7) X dX9_delayCost_2 (by decide) (fun c1 => ?_) (fun c1 => ?_)
  · replace e := zit e c1
    refine zv_iload_n X dX9_delayCost_7 rfl rfl ?_
    refine zv_iload_n X dX9_delayCost_8 rfl rfl ?_
    refine zv_iload_n X dX9_delayCost_9 rfl rfl ?_
    refine zv_isub X dX9_delayCost_10 ?_
    refine zv_imul X dX9_delayCost_11 ?_
    refine zb e (fun v2 gv2 e => ?_)
    refine zv_nmI X gv2 ?_
    refine zv_istore_n (i := 3) (lv' := [(3, .int v2), (0, .int a0), (1, .int a1), (2, .int a2)]) X dX9_delayCost_12 rfl (Nat.le_of_ble_eq_true rfl) rfl ?_
    refine zv_iload_n X dX9_delayCost_13 rfl rfl ?_
    refine zv_iload_n X dX9_delayCost_14 rfl rfl ?_
    refine zv_isub X dX9_delayCost_15 ?_
    refine zv_bipush (v := (30 : Int32)) X dX9_delayCost_16 zbp_30 ?_
    refine zb e (fun v3 gv3 e => ?_)
    refine zv_idiv X dX9_delayCost_18 gv3 ?_
    refine zv_istore (i := 4) (lv' := [(4, .int v3), (3, .int v2), (0, .int a0), (1, .int a1), (2, .int a2)]) X dX9_delayCost_19 (Nat.le_of_ble_eq_true rfl) rfl ?_
    refine zv_iconst (v := (0 : Int32)) X dX9_delayCost_21 zic_0 ?_
    refine zv_istore (i := 5) (lv' := [(5, .int (0 : Int32)), (4, .int v3), (3, .int v2), (0, .int a0), (1, .int a1), (2, .int a2)]) X dX9_delayCost_22 (Nat.le_of_ble_eq_true rfl) rfl ?_
    exact zv_pick X [2, 1, 0] rfl (k_X9_delayCost_L24 q hd X _ _ _ _ _ e)
  · replace e := zif e c1
    refine zv_iconst (v := (0 : Int32)) X dX9_delayCost_5 zic_0 ?_
    exact zv_retI X e rfl dX9_delayCost_6
-- X9_delay
def s_X9_delay (a1 : Int32) (a2 : Int32) (h : zHp) : Option (Int32 × zHp) :=
  (s_X4_has a1 h).bind fun q1 =>
  if q1.1 = 0 then
    (s_X9_refused (-1 : Int32) q1.2).bind fun q10 =>
    some (q10.1, q10.2)
  else
    if 0 ≤ a2 then
      if a2 ≤ (1500 : Int32) then
        (s_X9_riskOf a1 q1.2).bind fun q5 =>
        (s_X9_dueOf a1 q5.1 q5.2).bind fun q6 =>
        (s_X9_delayCost q5.1 q6.1 a2 q6.2).bind fun q7 =>
        some (q7.1, q7.2)
      else
        (s_X9_refused (-6 : Int32) q1.2).bind fun q8 =>
        some (q8.1, q8.2)
    else
      (s_X9_refused (-4 : Int32) q1.2).bind fun q9 =>
      some (q9.1, q9.2)
set_option maxRecDepth 100000 in
set_option maxHeartbeats 4000000 in
theorem k_X9_delay {l : Launch} {D : va_G} {cy : Nat → ClassId} {S0 d : Nat} (hd : 4 ≤ d) {a1 : Int32} {a2 : Int32} {h : zHp} {q : (Int32 × zHp)} (e : s_X9_delay a1 a2 h = some q) : zCT l D cy S0 d yX9_delay cX9_delay 4 (some .int) [.ref 0, .int a1, .int a2] 117 zRF h (some (.int q.1)) 117 zRF q.2 := by
  unfold s_X9_delay at e
  refine zCT_of RX9 rfl zm_X9_delay (Nat.le_refl _) (Nat.le_of_ble_eq_true rfl) (fun J X => ?_)
  show J 0 [(0, .ref 0), (1, .int a1), (2, .int a2)] [] 117 zRF h
  refine zv_aload_n X dX9_delay_0 rfl rfl ?_
  refine zv_getR X zf_RX9_36 znt_o zk_0 zb_0 zr_0_6 dX9_delay_1 ?_
  refine zv_iload_n X dX9_delay_4 rfl rfl ?_
  refine zb e (fun q1 gq1 e => ?_)
  refine zv_callV (stk := [.int a1, .ref 13]) (as := [.int a1]) (st := []) (k := 13) X zl_RX9_146 zm_X4_has (k_X4_has (d := d - 1) (by omega) gq1) (by omega) zb_13 (by rw [zk_13]; rfl) rfl rfl (Nat.le_of_ble_eq_true rfl) (Nat.le_refl _) rfl dX9_delay_5 ?_
  show J 8 [(0, .ref 0), (1, .int a1), (2, .int a2)] [.int q1.1] 117 zRF q1.2
  refine zv_if_ne (tgt := 17) X dX9_delay_8 (by decide) (fun c2 => ?_) (fun c2 => ?_)
  · replace e := zif e c2
    refine zv_iload_n X dX9_delay_17 rfl rfl ?_
    refine zv_if_ge (tgt := 28) X dX9_delay_18 (by decide) (fun c3 => ?_) (fun c3 => ?_)
    · replace e := zit e c3
      refine zv_iload_n X dX9_delay_28 rfl rfl ?_
      refine zv_sipush (v := (1500 : Int32)) X dX9_delay_29 zsp_1500 ?_
      refine zv_icmp_le (tgt := 42) X dX9_delay_32 (by decide) (fun c4 => ?_) (fun c4 => ?_)
      · replace e := zit e c4
        refine zv_aload_n X dX9_delay_42 rfl rfl ?_
        refine zv_iload_n X dX9_delay_43 rfl rfl ?_
        refine zb e (fun q5 gq5 e => ?_)
        refine zv_callV (stk := [.int a1, .ref 0]) (as := [.int a1]) (st := []) (k := 0) X zl_RX9_203 zm_X9_riskOf (k_X9_riskOf (d := d - 1) (by omega) gq5) (by omega) zb_0 (by rw [zk_0]; rfl) rfl rfl (Nat.le_of_ble_eq_true rfl) (Nat.le_refl _) rfl dX9_delay_44 ?_
        show J 47 [(0, .ref 0), (1, .int a1), (2, .int a2)] [.int q5.1] 117 zRF q5.2
        refine zv_istore_n (i := 3) (lv' := [(3, .int q5.1), (0, .ref 0), (1, .int a1), (2, .int a2)]) X dX9_delay_47 rfl (Nat.le_of_ble_eq_true rfl) rfl ?_
        refine zv_iload_n X dX9_delay_48 rfl rfl ?_
        refine zv_aload_n X dX9_delay_49 rfl rfl ?_
        refine zv_iload_n X dX9_delay_50 rfl rfl ?_
        refine zv_iload_n X dX9_delay_51 rfl rfl ?_
        refine zb e (fun q6 gq6 e => ?_)
        refine zv_callV (stk := [.int q5.1, .int a1, .ref 0, .int q5.1]) (as := [.int a1, .int q5.1]) (st := [.int q5.1]) (k := 0) X zl_RX9_206 zm_X9_dueOf (k_X9_dueOf (d := d - 1) (by omega) gq6) (by omega) zb_0 (by rw [zk_0]; rfl) rfl rfl (Nat.le_of_ble_eq_true rfl) (Nat.le_refl _) rfl dX9_delay_52 ?_
        show J 55 [(3, .int q5.1), (0, .ref 0), (1, .int a1), (2, .int a2)] [.int q6.1, .int q5.1] 117 zRF q6.2
        refine zv_iload_n X dX9_delay_55 rfl rfl ?_
        refine zb e (fun q7 gq7 e => ?_)
        refine zv_callS (stk := [.int a2, .int q6.1, .int q5.1]) (as := [.int q5.1, .int q6.1, .int a2]) (st := []) X zl_RX9_209 zm_X9_delayCost (k_X9_delayCost (d := d - 1) (by omega) gq7) (by omega) rfl (Nat.le_of_ble_eq_true rfl) (Nat.le_refl _) rfl dX9_delay_56 ?_
        show J 59 [(3, .int q5.1), (0, .ref 0), (1, .int a1), (2, .int a2)] [.int q7.1] 117 zRF q7.2
        exact zv_retI X e rfl dX9_delay_59
      · replace e := zif e c4
        refine zv_aload_n X dX9_delay_35 rfl rfl ?_
        refine zv_bipush (v := (-6 : Int32)) X dX9_delay_36 zbp_m6 ?_
        refine zb e (fun q8 gq8 e => ?_)
        refine zv_callV (stk := [.int (-6 : Int32), .ref 0]) (as := [.int (-6 : Int32)]) (st := []) (k := 0) X zl_RX9_108 zm_X9_refused (k_X9_refused (d := d - 1) (by omega) gq8) (by omega) zb_0 (by rw [zk_0]; rfl) rfl rfl (Nat.le_of_ble_eq_true rfl) (Nat.le_refl _) rfl dX9_delay_38 ?_
        show J 41 [(0, .ref 0), (1, .int a1), (2, .int a2)] [.int q8.1] 117 zRF q8.2
        exact zv_retI X e rfl dX9_delay_41
    · replace e := zif e c3
      refine zv_aload_n X dX9_delay_21 rfl rfl ?_
      refine zv_bipush (v := (-4 : Int32)) X dX9_delay_22 zbp_m4 ?_
      refine zb e (fun q9 gq9 e => ?_)
      refine zv_callV (stk := [.int (-4 : Int32), .ref 0]) (as := [.int (-4 : Int32)]) (st := []) (k := 0) X zl_RX9_108 zm_X9_refused (k_X9_refused (d := d - 1) (by omega) gq9) (by omega) zb_0 (by rw [zk_0]; rfl) rfl rfl (Nat.le_of_ble_eq_true rfl) (Nat.le_refl _) rfl dX9_delay_24 ?_
      show J 27 [(0, .ref 0), (1, .int a1), (2, .int a2)] [.int q9.1] 117 zRF q9.2
      exact zv_retI X e rfl dX9_delay_27
  · replace e := zit e c2
    refine zv_aload_n X dX9_delay_11 rfl rfl ?_
    refine zv_iconst (v := (-1 : Int32)) X dX9_delay_12 zic_m1 ?_
    refine zb e (fun q10 gq10 e => ?_)
    refine zv_callV (stk := [.int (-1 : Int32), .ref 0]) (as := [.int (-1 : Int32)]) (st := []) (k := 0) X zl_RX9_108 zm_X9_refused (k_X9_refused (d := d - 1) (by omega) gq10) (by omega) zb_0 (by rw [zk_0]; rfl) rfl rfl (Nat.le_of_ble_eq_true rfl) (Nat.le_refl _) rfl dX9_delay_13 ?_
    show J 16 [(0, .ref 0), (1, .int a1), (2, .int a2)] [.int q10.1] 117 zRF q10.2
    exact zv_retI X e rfl dX9_delay_16
-- X10_costOf
def s_X10_costOf_L26 : Nat → Int32 → Int32 → Int32 → zHp → Option (Int32 × zHp)
  | 0, _, _, _, _ => none
  | f + 1, a3, a4, a5, h =>
  (zdiv a3 (30 : Int32)).bind fun v1 =>
  if v1 ≤ a5 then
    some (a4, h)
  else
    (zdiv a4 (10 : Int32)).bind fun v3 =>
    (some (a4 + v3)).bind fun v4 =>
    s_X10_costOf_L26 f a3 v4 (a5 + (1 : Int32)) h
def s_X10_costOf (a1 : Int32) (a2 : Int32) (h : zHp) : Option (Int32 × zHp) :=
  (s_X10_dueOf a1 h).bind fun q1 =>
  (some (a2 - q1.1)).bind fun v2 =>
  if 0 < v2 then
    (s_X10_riskOf a1 q1.2).bind fun q4 =>
    (some (q4.1 * v2)).bind fun v5 =>
    s_X10_costOf_L26 zFU v2 v5 (0 : Int32) q4.2
  else
    some ((0 : Int32), q1.2)
set_option maxRecDepth 100000 in
set_option maxHeartbeats 4000000 in
theorem k_X10_costOf_L26 {l : Launch} {D : va_G} {cy : Nat → ClassId} {S0 d : Nat} {J : zJ} (q : (Int32 × zHp)) (hd : 5 ≤ d) (X : zOK l D cy S0 d RX10 cX10_costOf 6 (yX10_costOf.name == "<init>") 117 117 (some .int) (zRT 117 zRF (some (.int q.1)) q.2) J) : ∀ (f : Nat) (a3 : Int32) (a4 : Int32) (a5 : Int32) (h : zHp), s_X10_costOf_L26 f a3 a4 a5 h = some q → J 26 [(3, .int a3), (4, .int a4), (5, .int a5)] [] 117 zRF h := by
  intro f
  induction f with
  | zero => intro _ _ _ h e; exact absurd e (fun z => by cases z)
  | succ f ih =>
    intro a3 a4 a5 h e
    rw [s_X10_costOf_L26] at e
    refine zv_iload X dX10_costOf_26 rfl ?_
    refine zv_iload_n X dX10_costOf_28 rfl rfl ?_
    refine zv_bipush (v := (30 : Int32)) X dX10_costOf_29 zbp_30 ?_
    refine zb e (fun v1 gv1 e => ?_)
    refine zv_idiv X dX10_costOf_31 gv1 ?_
    refine zv_icmp_ge (tgt := 51) X dX10_costOf_32 (by decide) (fun c2 => ?_) (fun c2 => ?_)
    · replace e := zit e c2
      refine zv_iload X dX10_costOf_51 rfl ?_
      exact zv_retI X e rfl dX10_costOf_53
    · replace e := zif e c2
      refine zv_iload X dX10_costOf_35 rfl ?_
      refine zv_iload X dX10_costOf_37 rfl ?_
      refine zv_bipush (v := (10 : Int32)) X dX10_costOf_39 zbp_10 ?_
      refine zb e (fun v3 gv3 e => ?_)
      refine zv_idiv X dX10_costOf_41 gv3 ?_
      refine zv_iadd X dX10_costOf_42 ?_
      refine zb e (fun v4 gv4 e => ?_)
      refine zv_nmI X gv4 ?_
      refine zv_istore (i := 4) (lv' := [(4, .int v4), (3, .int a3), (5, .int a5)]) X dX10_costOf_43 (Nat.le_of_ble_eq_true rfl) rfl ?_
      refine zv_iinc (k := 2) (v := a5 + (1 : Int32)) (lv' := [(5, .int (a5 + (1 : Int32))), (4, .int v4), (3, .int a3)]) X dX10_costOf_45 rfl rfl (Nat.le_of_ble_eq_true rfl) rfl ?_
      refine zv_goto (tgt := 26) X dX10_costOf_48 (by decide) ?_
      exact zv_pick X [2, 1, 0] rfl (ih _ _ _ _ e)
set_option maxRecDepth 100000 in
set_option maxHeartbeats 4000000 in
theorem k_X10_costOf {l : Launch} {D : va_G} {cy : Nat → ClassId} {S0 d : Nat} (hd : 5 ≤ d) {a1 : Int32} {a2 : Int32} {h : zHp} {q : (Int32 × zHp)} (e : s_X10_costOf a1 a2 h = some q) : zCT l D cy S0 d yX10_costOf cX10_costOf 6 (some .int) [.ref 67, .int a1, .int a2] 117 zRF h (some (.int q.1)) 117 zRF q.2 := by
  unfold s_X10_costOf at e
  refine zCT_of RX10 rfl zm_X10_costOf (Nat.le_refl _) (Nat.le_of_ble_eq_true rfl) (fun J X => ?_)
  show J 0 [(0, .ref 67), (1, .int a1), (2, .int a2)] [] 117 zRF h
  refine zv_iload_n X dX10_costOf_0 rfl rfl ?_
  refine zv_aload_n X dX10_costOf_1 rfl rfl ?_
  refine zv_iload_n X dX10_costOf_2 rfl rfl ?_
  refine zb e (fun q1 gq1 e => ?_)
  refine zv_callV (stk := [.int a1, .ref 67, .int a2]) (as := [.int a1]) (st := [.int a2]) (k := 67) X zl_RX10_226 zm_X10_dueOf (k_X10_dueOf (d := d - 1) (by omega) gq1) (by omega) zb_67 (by rw [zk_67]; rfl) rfl rfl (Nat.le_of_ble_eq_true rfl) (Nat.le_refl _) rfl dX10_costOf_3 ?_
  show J 6 [(0, .ref 67), (1, .int a1), (2, .int a2)] [.int q1.1, .int a2] 117 zRF q1.2
  refine zv_isub X dX10_costOf_6 ?_
  refine zb e (fun v2 gv2 e => ?_)
  refine zv_nmI X gv2 ?_
  refine zv_istore_n (i := 3) (lv' := [(3, .int v2), (0, .ref 67), (1, .int a1), (2, .int a2)]) X dX10_costOf_7 rfl (Nat.le_of_ble_eq_true rfl) rfl ?_
  refine zv_iload_n X dX10_costOf_8 rfl rfl ?_
  refine zv_if_gt (tgt := 14) X dX10_costOf_9 (by decide) (fun c3 => ?_) (fun c3 => ?_)
  · replace e := zit e c3
    refine zv_aload_n X dX10_costOf_14 rfl rfl ?_
    refine zv_iload_n X dX10_costOf_15 rfl rfl ?_
    refine zb e (fun q4 gq4 e => ?_)
    refine zv_callV (stk := [.int a1, .ref 67]) (as := [.int a1]) (st := []) (k := 67) X zl_RX10_223 zm_X10_riskOf (k_X10_riskOf (d := d - 1) (by omega) gq4) (by omega) zb_67 (by rw [zk_67]; rfl) rfl rfl (Nat.le_of_ble_eq_true rfl) (Nat.le_refl _) rfl dX10_costOf_16 ?_
    show J 19 [(3, .int v2), (0, .ref 67), (1, .int a1), (2, .int a2)] [.int q4.1] 117 zRF q4.2
    refine zv_iload_n X dX10_costOf_19 rfl rfl ?_
    refine zv_imul X dX10_costOf_20 ?_
    refine zb e (fun v5 gv5 e => ?_)
    refine zv_nmI X gv5 ?_
    refine zv_istore (i := 4) (lv' := [(4, .int v5), (3, .int v2), (0, .ref 67), (1, .int a1), (2, .int a2)]) X dX10_costOf_21 (Nat.le_of_ble_eq_true rfl) rfl ?_
    refine zv_iconst (v := (0 : Int32)) X dX10_costOf_23 zic_0 ?_
    refine zv_istore (i := 5) (lv' := [(5, .int (0 : Int32)), (4, .int v5), (3, .int v2), (0, .ref 67), (1, .int a1), (2, .int a2)]) X dX10_costOf_24 (Nat.le_of_ble_eq_true rfl) rfl ?_
    exact zv_pick X [2, 1, 0] rfl (k_X10_costOf_L26 q hd X _ _ _ _ _ e)
  · replace e := zif e c3
    refine zv_iconst (v := (0 : Int32)) X dX10_costOf_12 zic_0 ?_
    exact zv_retI X e rfl dX10_costOf_13
-- X10_delay
def s_X10_delay_L38 (b0 : Int32) (h : zHp) : Option (Int32 × zHp) :=
  some (b0, h)
def s_X10_delay (a1 : Int32) (a2 : Int32) (h : zHp) : Option (Int32 × zHp) :=
  (s_X10_isKitchen a1 h).bind fun q1 =>
  if q1.1 = 0 then
    (s_X10_refuse (-1 : Int32) q1.2).bind fun q8 =>
    some (q8.1, q8.2)
  else
    (s_X10_wrongDay a2 q1.2).bind fun q3 =>
    if 0 ≤ q3.1 then
      (s_X10_costOf a1 a2 q3.2).bind fun q5 =>
      s_X10_delay_L38 q5.1 q5.2
    else
      (s_X10_wrongDay a2 q3.2).bind fun q6 =>
      (s_X10_refuse q6.1 q6.2).bind fun q7 =>
      s_X10_delay_L38 q7.1 q7.2
set_option maxRecDepth 100000 in
set_option maxHeartbeats 4000000 in
theorem k_X10_delay_L38 {l : Launch} {D : va_G} {cy : Nat → ClassId} {S0 d : Nat} {J : zJ} (q : (Int32 × zHp)) (hd : 6 ≤ d) (X : zOK l D cy S0 d RX10 cX10_delay 3 (yX10_delay.name == "<init>") 117 117 (some .int) (zRT 117 zRF (some (.int q.1)) q.2) J) : ∀ (b0 : Int32) (h : zHp), s_X10_delay_L38 b0 h = some q → J 38 [] [.int b0] 117 zRF h := by
  intro b0 h e
  unfold s_X10_delay_L38 at e
  exact zv_retI X e rfl dX10_delay_38
set_option maxRecDepth 100000 in
set_option maxHeartbeats 4000000 in
theorem k_X10_delay {l : Launch} {D : va_G} {cy : Nat → ClassId} {S0 d : Nat} (hd : 6 ≤ d) {a1 : Int32} {a2 : Int32} {h : zHp} {q : (Int32 × zHp)} (e : s_X10_delay a1 a2 h = some q) : zCT l D cy S0 d yX10_delay cX10_delay 3 (some .int) [.ref 67, .int a1, .int a2] 117 zRF h (some (.int q.1)) 117 zRF q.2 := by
  unfold s_X10_delay at e
  refine zCT_of RX10 rfl zm_X10_delay (Nat.le_refl _) (Nat.le_of_ble_eq_true rfl) (fun J X => ?_)
  show J 0 [(0, .ref 67), (1, .int a1), (2, .int a2)] [] 117 zRF h
  refine zv_aload_n X dX10_delay_0 rfl rfl ?_
  refine zv_iload_n X dX10_delay_1 rfl rfl ?_
  refine zb e (fun q1 gq1 e => ?_)
  refine zv_callV (stk := [.int a1, .ref 67]) (as := [.int a1]) (st := []) (k := 67) X zl_RX10_196 zm_X10_isKitchen (k_X10_isKitchen (d := d - 1) (by omega) gq1) (by omega) zb_67 (by rw [zk_67]; rfl) rfl rfl (Nat.le_of_ble_eq_true rfl) (Nat.le_refl _) rfl dX10_delay_2 ?_
  show J 5 [(0, .ref 67), (1, .int a1), (2, .int a2)] [.int q1.1] 117 zRF q1.2
  refine zv_if_ne (tgt := 14) X dX10_delay_5 (by decide) (fun c2 => ?_) (fun c2 => ?_)
  · replace e := zif e c2
    refine zv_iload_n X dX10_delay_14 rfl rfl ?_
    refine zb e (fun q3 gq3 e => ?_)
    refine zv_callS (stk := [.int a2]) (as := [.int a2]) (st := []) X zl_RX10_189 zm_X10_wrongDay (k_X10_wrongDay (d := d - 1) (by omega) gq3) (by omega) rfl (Nat.le_of_ble_eq_true rfl) (Nat.le_refl _) rfl dX10_delay_15 ?_
    show J 18 [(0, .ref 67), (1, .int a1), (2, .int a2)] [.int q3.1] 117 zRF q3.2
    refine zv_if_ge (tgt := 32) X dX10_delay_18 (by decide) (fun c4 => ?_) (fun c4 => ?_)
    · replace e := zit e c4
      refine zv_aload_n X dX10_delay_32 rfl rfl ?_
      refine zv_iload_n X dX10_delay_33 rfl rfl ?_
      refine zv_iload_n X dX10_delay_34 rfl rfl ?_
      refine zb e (fun q5 gq5 e => ?_)
      refine zv_callV (stk := [.int a2, .int a1, .ref 67]) (as := [.int a1, .int a2]) (st := []) (k := 67) X zl_RX10_229 zm_X10_costOf (k_X10_costOf (d := d - 1) (by omega) gq5) (by omega) zb_67 (by rw [zk_67]; rfl) rfl rfl (Nat.le_of_ble_eq_true rfl) (Nat.le_refl _) rfl dX10_delay_35 ?_
      show J 38 [(0, .ref 67), (1, .int a1), (2, .int a2)] [.int q5.1] 117 zRF q5.2
      exact zv_pick X [] rfl (k_X10_delay_L38 q hd X _ _ e)
    · replace e := zif e c4
      refine zv_aload_n X dX10_delay_21 rfl rfl ?_
      refine zv_iload_n X dX10_delay_22 rfl rfl ?_
      refine zb e (fun q6 gq6 e => ?_)
      refine zv_callS (stk := [.int a2, .ref 67]) (as := [.int a2]) (st := [.ref 67]) X zl_RX10_189 zm_X10_wrongDay (k_X10_wrongDay (d := d - 1) (by omega) gq6) (by omega) rfl (Nat.le_of_ble_eq_true rfl) (Nat.le_refl _) rfl dX10_delay_23 ?_
      show J 26 [(0, .ref 67), (1, .int a1), (2, .int a2)] [.int q6.1, .ref 67] 117 zRF q6.2
      refine zb e (fun q7 gq7 e => ?_)
      refine zv_callV (stk := [.int q6.1, .ref 67]) (as := [.int q6.1]) (st := []) (k := 67) X zl_RX10_175 zm_X10_refuse (k_X10_refuse (d := d - 1) (by omega) gq7) (by omega) zb_67 (by rw [zk_67]; rfl) rfl rfl (Nat.le_of_ble_eq_true rfl) (Nat.le_refl _) rfl dX10_delay_26 ?_
      show J 29 [(0, .ref 67), (1, .int a1), (2, .int a2)] [.int q7.1] 117 zRF q7.2
      refine zv_goto (tgt := 38) X dX10_delay_29 (by decide) ?_
      exact zv_pick X [] rfl (k_X10_delay_L38 q hd X _ _ e)
  · replace e := zit e c2
    refine zv_aload_n X dX10_delay_8 rfl rfl ?_
    refine zv_iconst (v := (-1 : Int32)) X dX10_delay_9 zic_m1 ?_
    refine zb e (fun q8 gq8 e => ?_)
    refine zv_callV (stk := [.int (-1 : Int32), .ref 67]) (as := [.int (-1 : Int32)]) (st := []) (k := 67) X zl_RX10_175 zm_X10_refuse (k_X10_refuse (d := d - 1) (by omega) gq8) (by omega) zb_67 (by rw [zk_67]; rfl) rfl rfl (Nat.le_of_ble_eq_true rfl) (Nat.le_refl _) rfl dX10_delay_10 ?_
    show J 13 [(0, .ref 67), (1, .int a1), (2, .int a2)] [.int q8.1] 117 zRF q8.2
    exact zv_retI X e rfl dX10_delay_13
-- X9_capacity
def s_X9_capacity (a1 : Int32) (h : zHp) : Option (Int32 × zHp) :=
  if (1 : Int32) ≤ a1 then
    if a1 ≤ (9 : Int32) then
      (some (h.1 0 15)).bind fun v3 =>
      (zpi h 0 15 a1).bind fun h4 =>
      some (v3, h4)
    else
      (s_X9_refused (-6 : Int32) h).bind fun q5 =>
      some (q5.1, q5.2)
  else
    (s_X9_refused (-4 : Int32) h).bind fun q6 =>
    some (q6.1, q6.2)
set_option maxRecDepth 100000 in
set_option maxHeartbeats 4000000 in
theorem k_X9_capacity {l : Launch} {D : va_G} {cy : Nat → ClassId} {S0 d : Nat} (hd : 1 ≤ d) {a1 : Int32} {h : zHp} {q : (Int32 × zHp)} (e : s_X9_capacity a1 h = some q) : zCT l D cy S0 d yX9_capacity cX9_capacity 3 (some .int) [.ref 0, .int a1] 117 zRF h (some (.int q.1)) 117 zRF q.2 := by
  unfold s_X9_capacity at e
  refine zCT_of RX9 rfl zm_X9_capacity (Nat.le_refl _) (Nat.le_of_ble_eq_true rfl) (fun J X => ?_)
  show J 0 [(0, .ref 0), (1, .int a1)] [] 117 zRF h
  refine zv_iload_n X dX9_capacity_0 rfl rfl ?_
  refine zv_iconst (v := (1 : Int32)) X dX9_capacity_1 zic_1 ?_
  refine zv_icmp_ge (tgt := 12) X dX9_capacity_2 (by decide) (fun c1 => ?_) (fun c1 => ?_)
  · replace e := zit e c1
    refine zv_iload_n X dX9_capacity_12 rfl rfl ?_
    refine zv_bipush (v := (9 : Int32)) X dX9_capacity_13 zbp_9 ?_
    refine zv_icmp_le (tgt := 25) X dX9_capacity_15 (by decide) (fun c2 => ?_) (fun c2 => ?_)
    · replace e := zit e c2
      refine zv_aload_n X dX9_capacity_25 rfl rfl ?_
      refine zv_getI X zf_RX9_99 zk_0 zb_0 dX9_capacity_26 ?_
      refine zb e (fun v3 gv3 e => ?_)
      refine zv_nmI X gv3 ?_
      refine zv_istore_n (i := 2) (lv' := [(2, .int v3), (0, .ref 0), (1, .int a1)]) X dX9_capacity_29 rfl (Nat.le_of_ble_eq_true rfl) rfl ?_
      refine zv_aload_n X dX9_capacity_30 rfl rfl ?_
      refine zv_iload_n X dX9_capacity_31 rfl rfl ?_
      refine zb e (fun h4 gh4 e => ?_)
      refine zv_putI' X zf_RX9_99 zk_0 zb_0 dX9_capacity_32 gh4 ?_
      refine zv_iload_n X dX9_capacity_35 rfl rfl ?_
      exact zv_retI X e rfl dX9_capacity_36
    · replace e := zif e c2
      refine zv_aload_n X dX9_capacity_18 rfl rfl ?_
      refine zv_bipush (v := (-6 : Int32)) X dX9_capacity_19 zbp_m6 ?_
      refine zb e (fun q5 gq5 e => ?_)
      refine zv_callV (stk := [.int (-6 : Int32), .ref 0]) (as := [.int (-6 : Int32)]) (st := []) (k := 0) X zl_RX9_108 zm_X9_refused (k_X9_refused (d := d - 1) (by omega) gq5) (by omega) zb_0 (by rw [zk_0]; rfl) rfl rfl (Nat.le_of_ble_eq_true rfl) (Nat.le_refl _) rfl dX9_capacity_21 ?_
      show J 24 [(0, .ref 0), (1, .int a1)] [.int q5.1] 117 zRF q5.2
      exact zv_retI X e rfl dX9_capacity_24
  · replace e := zif e c1
    refine zv_aload_n X dX9_capacity_5 rfl rfl ?_
    refine zv_bipush (v := (-4 : Int32)) X dX9_capacity_6 zbp_m4 ?_
    refine zb e (fun q6 gq6 e => ?_)
    refine zv_callV (stk := [.int (-4 : Int32), .ref 0]) (as := [.int (-4 : Int32)]) (st := []) (k := 0) X zl_RX9_108 zm_X9_refused (k_X9_refused (d := d - 1) (by omega) gq6) (by omega) zb_0 (by rw [zk_0]; rfl) rfl rfl (Nat.le_of_ble_eq_true rfl) (Nat.le_refl _) rfl dX9_capacity_8 ?_
    show J 11 [(0, .ref 0), (1, .int a1)] [.int q6.1] 117 zRF q6.2
    exact zv_retI X e rfl dX9_capacity_11
-- X10_capacity
def s_X10_capacity (a1 : Int32) (h : zHp) : Option (Int32 × zHp) :=
  if (1 : Int32) ≤ a1 then
    if a1 ≤ (9 : Int32) then
      (some (h.1 67 30)).bind fun v3 =>
      (zpi h 67 30 a1).bind fun h4 =>
      some (v3, h4)
    else
      (s_X10_refuse (-6 : Int32) h).bind fun q5 =>
      some (q5.1, q5.2)
  else
    (s_X10_refuse (-4 : Int32) h).bind fun q6 =>
    some (q6.1, q6.2)
set_option maxRecDepth 100000 in
set_option maxHeartbeats 4000000 in
theorem k_X10_capacity {l : Launch} {D : va_G} {cy : Nat → ClassId} {S0 d : Nat} (hd : 1 ≤ d) {a1 : Int32} {h : zHp} {q : (Int32 × zHp)} (e : s_X10_capacity a1 h = some q) : zCT l D cy S0 d yX10_capacity cX10_capacity 3 (some .int) [.ref 67, .int a1] 117 zRF h (some (.int q.1)) 117 zRF q.2 := by
  unfold s_X10_capacity at e
  refine zCT_of RX10 rfl zm_X10_capacity (Nat.le_refl _) (Nat.le_of_ble_eq_true rfl) (fun J X => ?_)
  show J 0 [(0, .ref 67), (1, .int a1)] [] 117 zRF h
  refine zv_iload_n X dX10_capacity_0 rfl rfl ?_
  refine zv_iconst (v := (1 : Int32)) X dX10_capacity_1 zic_1 ?_
  refine zv_icmp_ge (tgt := 12) X dX10_capacity_2 (by decide) (fun c1 => ?_) (fun c1 => ?_)
  · replace e := zit e c1
    refine zv_iload_n X dX10_capacity_12 rfl rfl ?_
    refine zv_bipush (v := (9 : Int32)) X dX10_capacity_13 zbp_9 ?_
    refine zv_icmp_le (tgt := 25) X dX10_capacity_15 (by decide) (fun c2 => ?_) (fun c2 => ?_)
    · replace e := zit e c2
      refine zv_aload_n X dX10_capacity_25 rfl rfl ?_
      refine zv_getI X zf_RX10_86 zk_67 zb_67 dX10_capacity_26 ?_
      refine zb e (fun v3 gv3 e => ?_)
      refine zv_nmI X gv3 ?_
      refine zv_istore_n (i := 2) (lv' := [(2, .int v3), (0, .ref 67), (1, .int a1)]) X dX10_capacity_29 rfl (Nat.le_of_ble_eq_true rfl) rfl ?_
      refine zv_aload_n X dX10_capacity_30 rfl rfl ?_
      refine zv_iload_n X dX10_capacity_31 rfl rfl ?_
      refine zb e (fun h4 gh4 e => ?_)
      refine zv_putI' X zf_RX10_86 zk_67 zb_67 dX10_capacity_32 gh4 ?_
      refine zv_iload_n X dX10_capacity_35 rfl rfl ?_
      exact zv_retI X e rfl dX10_capacity_36
    · replace e := zif e c2
      refine zv_aload_n X dX10_capacity_18 rfl rfl ?_
      refine zv_bipush (v := (-6 : Int32)) X dX10_capacity_19 zbp_m6 ?_
      refine zb e (fun q5 gq5 e => ?_)
      refine zv_callV (stk := [.int (-6 : Int32), .ref 67]) (as := [.int (-6 : Int32)]) (st := []) (k := 67) X zl_RX10_175 zm_X10_refuse (k_X10_refuse (d := d - 1) (by omega) gq5) (by omega) zb_67 (by rw [zk_67]; rfl) rfl rfl (Nat.le_of_ble_eq_true rfl) (Nat.le_refl _) rfl dX10_capacity_21 ?_
      show J 24 [(0, .ref 67), (1, .int a1)] [.int q5.1] 117 zRF q5.2
      exact zv_retI X e rfl dX10_capacity_24
  · replace e := zif e c1
    refine zv_aload_n X dX10_capacity_5 rfl rfl ?_
    refine zv_bipush (v := (-4 : Int32)) X dX10_capacity_6 zbp_m4 ?_
    refine zb e (fun q6 gq6 e => ?_)
    refine zv_callV (stk := [.int (-4 : Int32), .ref 67]) (as := [.int (-4 : Int32)]) (st := []) (k := 67) X zl_RX10_175 zm_X10_refuse (k_X10_refuse (d := d - 1) (by omega) gq6) (by omega) zb_67 (by rw [zk_67]; rfl) rfl rfl (Nat.le_of_ble_eq_true rfl) (Nat.le_refl _) rfl dX10_capacity_8 ?_
    show J 11 [(0, .ref 67), (1, .int a1)] [.int q6.1] 117 zRF q6.2
    exact zv_retI X e rfl dX10_capacity_11

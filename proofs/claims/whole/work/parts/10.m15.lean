-- X9_began
def s_X9_began (a1 : Int32) (a2 : Int32) (h : zHp) : Option (Int32 × zHp) :=
  (s_X9_isWithin a1 (6 : Int32) h).bind fun q1 =>
  if q1.1 = 0 then
    (s_X9_refused (-1 : Int32) q1.2).bind fun q8 =>
    some (q8.1, q8.2)
  else
    if 0 ≤ a2 then
      if a2 ≤ (12 : Int32) then
        (s_X7_changeBegan a1 a2 q1.2).bind fun q5 =>
        some (q5.1, q5.2)
      else
        (s_X9_refused (-6 : Int32) q1.2).bind fun q6 =>
        some (q6.1, q6.2)
    else
      (s_X9_refused (-4 : Int32) q1.2).bind fun q7 =>
      some (q7.1, q7.2)
set_option maxRecDepth 100000 in
set_option maxHeartbeats 4000000 in
theorem k_X9_began {l : Launch} {D : va_G} {cy : Nat → ClassId} {S0 d : Nat} (hd : 1 ≤ d) {a1 : Int32} {a2 : Int32} {h : zHp} {q : (Int32 × zHp)} (e : s_X9_began a1 a2 h = some q) : zCT l D cy S0 d yX9_began cX9_began 3 (some .int) [.ref 0, .int a1, .int a2] 117 zRF h (some (.int q.1)) 117 zRF q.2 := by
  unfold s_X9_began at e
  refine zCT_of RX9 rfl zm_X9_began (Nat.le_refl _) (Nat.le_of_ble_eq_true rfl) (fun J X => ?_)
  show J 0 [(0, .ref 0), (1, .int a1), (2, .int a2)] [] 117 zRF h
  refine zv_iload_n X dX9_began_0 rfl rfl ?_
  refine zv_bipush (v := (6 : Int32)) X dX9_began_1 zbp_6 ?_
  refine zb e (fun q1 gq1 e => ?_)
  refine zv_callS (stk := [.int (6 : Int32), .int a1]) (as := [.int a1, .int (6 : Int32)]) (st := []) X zl_RX9_112 zm_X9_isWithin (k_X9_isWithin (d := d - 1) (by omega) gq1) (by omega) rfl (Nat.le_of_ble_eq_true rfl) (Nat.le_refl _) rfl dX9_began_3 ?_
  show J 6 [(0, .ref 0), (1, .int a1), (2, .int a2)] [.int q1.1] 117 zRF q1.2
  refine zv_if_ne (tgt := 15) X dX9_began_6 (by decide) (fun c2 => ?_) (fun c2 => ?_)
  · replace e := zif e c2
    refine zv_iload_n X dX9_began_15 rfl rfl ?_
    refine zv_if_ge (tgt := 26) X dX9_began_16 (by decide) (fun c3 => ?_) (fun c3 => ?_)
    · replace e := zit e c3
      refine zv_iload_n X dX9_began_26 rfl rfl ?_
      refine zv_bipush (v := (12 : Int32)) X dX9_began_27 zbp_12 ?_
      refine zv_icmp_le (tgt := 39) X dX9_began_29 (by decide) (fun c4 => ?_) (fun c4 => ?_)
      · replace e := zit e c4
        refine zv_aload_n X dX9_began_39 rfl rfl ?_
        refine zv_getR X zf_RX9_84 znt_o zk_0 zb_0 zr_0_12 dX9_began_40 ?_
        refine zv_iload_n X dX9_began_43 rfl rfl ?_
        refine zv_iload_n X dX9_began_44 rfl rfl ?_
        refine zb e (fun q5 gq5 e => ?_)
        refine zv_callV (stk := [.int a2, .int a1, .ref 59]) (as := [.int a1, .int a2]) (st := []) (k := 59) X zl_RX9_270 zm_X7_changeBegan (k_X7_changeBegan (d := d - 1) (by omega) gq5) (by omega) zb_59 (by rw [zk_59]; rfl) rfl rfl (Nat.le_of_ble_eq_true rfl) (Nat.le_refl _) rfl dX9_began_45 ?_
        show J 48 [(0, .ref 0), (1, .int a1), (2, .int a2)] [.int q5.1] 117 zRF q5.2
        exact zv_retI X e rfl dX9_began_48
      · replace e := zif e c4
        refine zv_aload_n X dX9_began_32 rfl rfl ?_
        refine zv_bipush (v := (-6 : Int32)) X dX9_began_33 zbp_m6 ?_
        refine zb e (fun q6 gq6 e => ?_)
        refine zv_callV (stk := [.int (-6 : Int32), .ref 0]) (as := [.int (-6 : Int32)]) (st := []) (k := 0) X zl_RX9_108 zm_X9_refused (k_X9_refused (d := d - 1) (by omega) gq6) (by omega) zb_0 (by rw [zk_0]; rfl) rfl rfl (Nat.le_of_ble_eq_true rfl) (Nat.le_refl _) rfl dX9_began_35 ?_
        show J 38 [(0, .ref 0), (1, .int a1), (2, .int a2)] [.int q6.1] 117 zRF q6.2
        exact zv_retI X e rfl dX9_began_38
    · replace e := zif e c3
      refine zv_aload_n X dX9_began_19 rfl rfl ?_
      refine zv_bipush (v := (-4 : Int32)) X dX9_began_20 zbp_m4 ?_
      refine zb e (fun q7 gq7 e => ?_)
      refine zv_callV (stk := [.int (-4 : Int32), .ref 0]) (as := [.int (-4 : Int32)]) (st := []) (k := 0) X zl_RX9_108 zm_X9_refused (k_X9_refused (d := d - 1) (by omega) gq7) (by omega) zb_0 (by rw [zk_0]; rfl) rfl rfl (Nat.le_of_ble_eq_true rfl) (Nat.le_refl _) rfl dX9_began_22 ?_
      show J 25 [(0, .ref 0), (1, .int a1), (2, .int a2)] [.int q7.1] 117 zRF q7.2
      exact zv_retI X e rfl dX9_began_25
  · replace e := zit e c2
    refine zv_aload_n X dX9_began_9 rfl rfl ?_
    refine zv_iconst (v := (-1 : Int32)) X dX9_began_10 zic_m1 ?_
    refine zb e (fun q8 gq8 e => ?_)
    refine zv_callV (stk := [.int (-1 : Int32), .ref 0]) (as := [.int (-1 : Int32)]) (st := []) (k := 0) X zl_RX9_108 zm_X9_refused (k_X9_refused (d := d - 1) (by omega) gq8) (by omega) zb_0 (by rw [zk_0]; rfl) rfl rfl (Nat.le_of_ble_eq_true rfl) (Nat.le_refl _) rfl dX9_began_11 ?_
    show J 14 [(0, .ref 0), (1, .int a1), (2, .int a2)] [.int q8.1] 117 zRF q8.2
    exact zv_retI X e rfl dX9_began_14
-- X10_began
def s_X10_began (a1 : Int32) (a2 : Int32) (h : zHp) : Option (Int32 × zHp) :=
  (s_X10_in a1 (0 : Int32) (5 : Int32) h).bind fun q1 =>
  if q1.1 = 0 then
    (s_X10_refuse (-1 : Int32) q1.2).bind fun q9 =>
    some (q9.1, q9.2)
  else
    if 0 ≤ a2 then
      if a2 ≤ (12 : Int32) then
        (zri q1.2 113 6 a1).bind fun v5 =>
        (zui q1.2 113 6 a1 a2).bind fun h6 =>
        some (v5, h6)
      else
        (s_X10_refuse (-6 : Int32) q1.2).bind fun q7 =>
        some (q7.1, q7.2)
    else
      (s_X10_refuse (-4 : Int32) q1.2).bind fun q8 =>
      some (q8.1, q8.2)
set_option maxRecDepth 100000 in
set_option maxHeartbeats 4000000 in
theorem k_X10_began {l : Launch} {D : va_G} {cy : Nat → ClassId} {S0 d : Nat} (hd : 1 ≤ d) {a1 : Int32} {a2 : Int32} {h : zHp} {q : (Int32 × zHp)} (e : s_X10_began a1 a2 h = some q) : zCT l D cy S0 d yX10_began cX10_began 4 (some .int) [.ref 67, .int a1, .int a2] 117 zRF h (some (.int q.1)) 117 zRF q.2 := by
  unfold s_X10_began at e
  refine zCT_of RX10 rfl zm_X10_began (Nat.le_refl _) (Nat.le_of_ble_eq_true rfl) (fun J X => ?_)
  show J 0 [(0, .ref 67), (1, .int a1), (2, .int a2)] [] 117 zRF h
  refine zv_iload_n X dX10_began_0 rfl rfl ?_
  refine zv_iconst (v := (0 : Int32)) X dX10_began_1 zic_0 ?_
  refine zv_iconst (v := (5 : Int32)) X dX10_began_2 zic_5 ?_
  refine zb e (fun q1 gq1 e => ?_)
  refine zv_callS (stk := [.int (5 : Int32), .int (0 : Int32), .int a1]) (as := [.int a1, .int (0 : Int32), .int (5 : Int32)]) (st := []) X zl_RX10_168 zm_X10_in (k_X10_in (d := d - 1) (by omega) gq1) (by omega) rfl (Nat.le_of_ble_eq_true rfl) (Nat.le_refl _) rfl dX10_began_3 ?_
  show J 6 [(0, .ref 67), (1, .int a1), (2, .int a2)] [.int q1.1] 117 zRF q1.2
  refine zv_if_ne (tgt := 15) X dX10_began_6 (by decide) (fun c2 => ?_) (fun c2 => ?_)
  · replace e := zif e c2
    refine zv_iload_n X dX10_began_15 rfl rfl ?_
    refine zv_if_ge (tgt := 26) X dX10_began_16 (by decide) (fun c3 => ?_) (fun c3 => ?_)
    · replace e := zit e c3
      refine zv_iload_n X dX10_began_26 rfl rfl ?_
      refine zv_bipush (v := (12 : Int32)) X dX10_began_27 zbp_12 ?_
      refine zv_icmp_le (tgt := 39) X dX10_began_29 (by decide) (fun c4 => ?_) (fun c4 => ?_)
      · replace e := zit e c4
        refine zv_aload_n X dX10_began_39 rfl rfl ?_
        refine zv_getR X zf_RX10_151 znt_a zk_67 zb_67 zr_67_56 dX10_began_40 ?_
        refine zv_iload_n X dX10_began_43 rfl rfl ?_
        refine zb e (fun v5 gv5 e => ?_)
        refine zv_iald X zk_113 zl_113 zb_113 dX10_began_44 gv5 ?_
        refine zv_istore_n (i := 3) (lv' := [(3, .int v5), (0, .ref 67), (1, .int a1), (2, .int a2)]) X dX10_began_45 rfl (Nat.le_of_ble_eq_true rfl) rfl ?_
        refine zv_aload_n X dX10_began_46 rfl rfl ?_
        refine zv_getR X zf_RX10_151 znt_a zk_67 zb_67 zr_67_56 dX10_began_47 ?_
        refine zv_iload_n X dX10_began_50 rfl rfl ?_
        refine zv_iload_n X dX10_began_51 rfl rfl ?_
        refine zb e (fun h6 gh6 e => ?_)
        refine zv_iast X zk_113 zl_113 zb_113 dX10_began_52 gh6 ?_
        refine zv_iload_n X dX10_began_53 rfl rfl ?_
        exact zv_retI X e rfl dX10_began_54
      · replace e := zif e c4
        refine zv_aload_n X dX10_began_32 rfl rfl ?_
        refine zv_bipush (v := (-6 : Int32)) X dX10_began_33 zbp_m6 ?_
        refine zb e (fun q7 gq7 e => ?_)
        refine zv_callV (stk := [.int (-6 : Int32), .ref 67]) (as := [.int (-6 : Int32)]) (st := []) (k := 67) X zl_RX10_175 zm_X10_refuse (k_X10_refuse (d := d - 1) (by omega) gq7) (by omega) zb_67 (by rw [zk_67]; rfl) rfl rfl (Nat.le_of_ble_eq_true rfl) (Nat.le_refl _) rfl dX10_began_35 ?_
        show J 38 [(0, .ref 67), (1, .int a1), (2, .int a2)] [.int q7.1] 117 zRF q7.2
        exact zv_retI X e rfl dX10_began_38
    · replace e := zif e c3
      refine zv_aload_n X dX10_began_19 rfl rfl ?_
      refine zv_bipush (v := (-4 : Int32)) X dX10_began_20 zbp_m4 ?_
      refine zb e (fun q8 gq8 e => ?_)
      refine zv_callV (stk := [.int (-4 : Int32), .ref 67]) (as := [.int (-4 : Int32)]) (st := []) (k := 67) X zl_RX10_175 zm_X10_refuse (k_X10_refuse (d := d - 1) (by omega) gq8) (by omega) zb_67 (by rw [zk_67]; rfl) rfl rfl (Nat.le_of_ble_eq_true rfl) (Nat.le_refl _) rfl dX10_began_22 ?_
      show J 25 [(0, .ref 67), (1, .int a1), (2, .int a2)] [.int q8.1] 117 zRF q8.2
      exact zv_retI X e rfl dX10_began_25
  · replace e := zit e c2
    refine zv_aload_n X dX10_began_9 rfl rfl ?_
    refine zv_iconst (v := (-1 : Int32)) X dX10_began_10 zic_m1 ?_
    refine zb e (fun q9 gq9 e => ?_)
    refine zv_callV (stk := [.int (-1 : Int32), .ref 67]) (as := [.int (-1 : Int32)]) (st := []) (k := 67) X zl_RX10_175 zm_X10_refuse (k_X10_refuse (d := d - 1) (by omega) gq9) (by omega) zb_67 (by rw [zk_67]; rfl) rfl rfl (Nat.le_of_ble_eq_true rfl) (Nat.le_refl _) rfl dX10_began_11 ?_
    show J 14 [(0, .ref 67), (1, .int a1), (2, .int a2)] [.int q9.1] 117 zRF q9.2
    exact zv_retI X e rfl dX10_began_14
-- X7_changeCases
def s_X7_changeCases (a1 : Int32) (a2 : Int32) (a3 : Int32) (h : zHp) : Option (Int32 × zHp) :=
  (some ((a1 * (12 : Int32)) + a2)).bind fun v1 =>
  (zri h 61 72 v1).bind fun v2 =>
  (zui h 61 72 v1 a3).bind fun h3 =>
  some (v2, h3)
set_option maxRecDepth 100000 in
set_option maxHeartbeats 4000000 in
theorem k_X7_changeCases {l : Launch} {D : va_G} {cy : Nat → ClassId} {S0 d : Nat} (hd : 0 ≤ d) {a1 : Int32} {a2 : Int32} {a3 : Int32} {h : zHp} {q : (Int32 × zHp)} (e : s_X7_changeCases a1 a2 a3 h = some q) : zCT l D cy S0 d yX7_changeCases cX7_changeCases 6 (some .int) [.ref 59, .int a1, .int a2, .int a3] 117 zRF h (some (.int q.1)) 117 zRF q.2 := by
  unfold s_X7_changeCases at e
  refine zCT_of RX7 rfl zm_X7_changeCases (Nat.le_refl _) (Nat.le_of_ble_eq_true rfl) (fun J X => ?_)
  show J 0 [(0, .ref 59), (1, .int a1), (2, .int a2), (3, .int a3)] [] 117 zRF h
  refine zv_iload_n X dX7_changeCases_0 rfl rfl ?_
  refine zv_bipush (v := (12 : Int32)) X dX7_changeCases_1 zbp_12 ?_
  refine zv_imul X dX7_changeCases_3 ?_
  refine zv_iload_n X dX7_changeCases_4 rfl rfl ?_
  refine zv_iadd X dX7_changeCases_5 ?_
  refine zb e (fun v1 gv1 e => ?_)
  refine zv_nmI X gv1 ?_
  refine zv_istore (i := 4) (lv' := [(4, .int v1), (0, .ref 59), (1, .int a1), (2, .int a2), (3, .int a3)]) X dX7_changeCases_6 (Nat.le_of_ble_eq_true rfl) rfl ?_
  refine zv_aload_n X dX7_changeCases_8 rfl rfl ?_
  refine zv_getR X zf_RX7_15 znt_a zk_59 zb_59 zr_59_1 dX7_changeCases_9 ?_
  refine zv_iload X dX7_changeCases_12 rfl ?_
  refine zb e (fun v2 gv2 e => ?_)
  refine zv_iald X zk_61 zl_61 zb_61 dX7_changeCases_14 gv2 ?_
  refine zv_istore (i := 5) (lv' := [(5, .int v2), (4, .int v1), (0, .ref 59), (1, .int a1), (2, .int a2), (3, .int a3)]) X dX7_changeCases_15 (Nat.le_of_ble_eq_true rfl) rfl ?_
  refine zv_aload_n X dX7_changeCases_17 rfl rfl ?_
  refine zv_getR X zf_RX7_15 znt_a zk_59 zb_59 zr_59_1 dX7_changeCases_18 ?_
  refine zv_iload X dX7_changeCases_21 rfl ?_
  refine zv_iload_n X dX7_changeCases_23 rfl rfl ?_
  refine zb e (fun h3 gh3 e => ?_)
  refine zv_iast X zk_61 zl_61 zb_61 dX7_changeCases_24 gh3 ?_
  refine zv_iload X dX7_changeCases_25 rfl ?_
  exact zv_retI X e rfl dX7_changeCases_27
-- X9_cases
def s_X9_cases_L18  (h : zHp) : Option (Int32 × zHp) :=
  (s_X9_refused (-1 : Int32) h).bind fun q1 =>
  some (q1.1, q1.2)
def s_X9_cases (a1 : Int32) (a2 : Int32) (a3 : Int32) (h : zHp) : Option (Int32 × zHp) :=
  (s_X9_isWithin a1 (6 : Int32) h).bind fun q1 =>
  if q1.1 = 0 then
    s_X9_cases_L18 q1.2
  else
    (s_X9_isWithin a2 (12 : Int32) q1.2).bind fun q3 =>
    if q3.1 = 0 then
      s_X9_cases_L18 q3.2
    else
      if 0 ≤ a3 then
        if a3 ≤ (999 : Int32) then
          (s_X7_changeCases a1 a2 a3 q3.2).bind fun q7 =>
          some (q7.1, q7.2)
        else
          (s_X9_refused (-6 : Int32) q3.2).bind fun q8 =>
          some (q8.1, q8.2)
      else
        (s_X9_refused (-4 : Int32) q3.2).bind fun q9 =>
        some (q9.1, q9.2)
set_option maxRecDepth 100000 in
set_option maxHeartbeats 4000000 in
theorem k_X9_cases_L18 {l : Launch} {D : va_G} {cy : Nat → ClassId} {S0 d : Nat} {J : zJ} (q : (Int32 × zHp)) (hd : 1 ≤ d) (X : zOK l D cy S0 d RX9 cX9_cases 4 (yX9_cases.name == "<init>") 117 117 (some .int) (zRT 117 zRF (some (.int q.1)) q.2) J) : ∀  (h : zHp), s_X9_cases_L18  h = some q → J 18 [(0, .ref 0)] [] 117 zRF h := by
  intro  h e
  unfold s_X9_cases_L18 at e
  refine zv_aload_n X dX9_cases_18 rfl rfl ?_
  refine zv_iconst (v := (-1 : Int32)) X dX9_cases_19 zic_m1 ?_
  refine zb e (fun q1 gq1 e => ?_)
  refine zv_callV (stk := [.int (-1 : Int32), .ref 0]) (as := [.int (-1 : Int32)]) (st := []) (k := 0) X zl_RX9_108 zm_X9_refused (k_X9_refused (d := d - 1) (by omega) gq1) (by omega) zb_0 (by rw [zk_0]; rfl) rfl rfl (Nat.le_of_ble_eq_true rfl) (Nat.le_refl _) rfl dX9_cases_20 ?_
  show J 23 [(0, .ref 0)] [.int q1.1] 117 zRF q1.2
  exact zv_retI X e rfl dX9_cases_23
set_option maxRecDepth 100000 in
set_option maxHeartbeats 4000000 in
theorem k_X9_cases {l : Launch} {D : va_G} {cy : Nat → ClassId} {S0 d : Nat} (hd : 1 ≤ d) {a1 : Int32} {a2 : Int32} {a3 : Int32} {h : zHp} {q : (Int32 × zHp)} (e : s_X9_cases a1 a2 a3 h = some q) : zCT l D cy S0 d yX9_cases cX9_cases 4 (some .int) [.ref 0, .int a1, .int a2, .int a3] 117 zRF h (some (.int q.1)) 117 zRF q.2 := by
  unfold s_X9_cases at e
  refine zCT_of RX9 rfl zm_X9_cases (Nat.le_refl _) (Nat.le_of_ble_eq_true rfl) (fun J X => ?_)
  show J 0 [(0, .ref 0), (1, .int a1), (2, .int a2), (3, .int a3)] [] 117 zRF h
  refine zv_iload_n X dX9_cases_0 rfl rfl ?_
  refine zv_bipush (v := (6 : Int32)) X dX9_cases_1 zbp_6 ?_
  refine zb e (fun q1 gq1 e => ?_)
  refine zv_callS (stk := [.int (6 : Int32), .int a1]) (as := [.int a1, .int (6 : Int32)]) (st := []) X zl_RX9_112 zm_X9_isWithin (k_X9_isWithin (d := d - 1) (by omega) gq1) (by omega) rfl (Nat.le_of_ble_eq_true rfl) (Nat.le_refl _) rfl dX9_cases_3 ?_
  show J 6 [(0, .ref 0), (1, .int a1), (2, .int a2), (3, .int a3)] [.int q1.1] 117 zRF q1.2
  refine zv_if_eq (tgt := 18) X dX9_cases_6 (by decide) (fun c2 => ?_) (fun c2 => ?_)
  · replace e := zit e c2
    exact zv_pick X [0] rfl (k_X9_cases_L18 q hd X  _ e)
  · replace e := zif e c2
    refine zv_iload_n X dX9_cases_9 rfl rfl ?_
    refine zv_bipush (v := (12 : Int32)) X dX9_cases_10 zbp_12 ?_
    refine zb e (fun q3 gq3 e => ?_)
    refine zv_callS (stk := [.int (12 : Int32), .int a2]) (as := [.int a2, .int (12 : Int32)]) (st := []) X zl_RX9_112 zm_X9_isWithin (k_X9_isWithin (d := d - 1) (by omega) gq3) (by omega) rfl (Nat.le_of_ble_eq_true rfl) (Nat.le_refl _) rfl dX9_cases_12 ?_
    show J 15 [(0, .ref 0), (1, .int a1), (2, .int a2), (3, .int a3)] [.int q3.1] 117 zRF q3.2
    refine zv_if_ne (tgt := 24) X dX9_cases_15 (by decide) (fun c4 => ?_) (fun c4 => ?_)
    · replace e := zif e c4
      refine zv_iload_n X dX9_cases_24 rfl rfl ?_
      refine zv_if_ge (tgt := 35) X dX9_cases_25 (by decide) (fun c5 => ?_) (fun c5 => ?_)
      · replace e := zit e c5
        refine zv_iload_n X dX9_cases_35 rfl rfl ?_
        refine zv_sipush (v := (999 : Int32)) X dX9_cases_36 zsp_999 ?_
        refine zv_icmp_le (tgt := 49) X dX9_cases_39 (by decide) (fun c6 => ?_) (fun c6 => ?_)
        · replace e := zit e c6
          refine zv_aload_n X dX9_cases_49 rfl rfl ?_
          refine zv_getR X zf_RX9_84 znt_o zk_0 zb_0 zr_0_12 dX9_cases_50 ?_
          refine zv_iload_n X dX9_cases_53 rfl rfl ?_
          refine zv_iload_n X dX9_cases_54 rfl rfl ?_
          refine zv_iload_n X dX9_cases_55 rfl rfl ?_
          refine zb e (fun q7 gq7 e => ?_)
          refine zv_callV (stk := [.int a3, .int a2, .int a1, .ref 59]) (as := [.int a1, .int a2, .int a3]) (st := []) (k := 59) X zl_RX9_273 zm_X7_changeCases (k_X7_changeCases (d := d - 1) (by omega) gq7) (by omega) zb_59 (by rw [zk_59]; rfl) rfl rfl (Nat.le_of_ble_eq_true rfl) (Nat.le_refl _) rfl dX9_cases_56 ?_
          show J 59 [(0, .ref 0), (1, .int a1), (2, .int a2), (3, .int a3)] [.int q7.1] 117 zRF q7.2
          exact zv_retI X e rfl dX9_cases_59
        · replace e := zif e c6
          refine zv_aload_n X dX9_cases_42 rfl rfl ?_
          refine zv_bipush (v := (-6 : Int32)) X dX9_cases_43 zbp_m6 ?_
          refine zb e (fun q8 gq8 e => ?_)
          refine zv_callV (stk := [.int (-6 : Int32), .ref 0]) (as := [.int (-6 : Int32)]) (st := []) (k := 0) X zl_RX9_108 zm_X9_refused (k_X9_refused (d := d - 1) (by omega) gq8) (by omega) zb_0 (by rw [zk_0]; rfl) rfl rfl (Nat.le_of_ble_eq_true rfl) (Nat.le_refl _) rfl dX9_cases_45 ?_
          show J 48 [(0, .ref 0), (1, .int a1), (2, .int a2), (3, .int a3)] [.int q8.1] 117 zRF q8.2
          exact zv_retI X e rfl dX9_cases_48
      · replace e := zif e c5
        refine zv_aload_n X dX9_cases_28 rfl rfl ?_
        refine zv_bipush (v := (-4 : Int32)) X dX9_cases_29 zbp_m4 ?_
        refine zb e (fun q9 gq9 e => ?_)
        refine zv_callV (stk := [.int (-4 : Int32), .ref 0]) (as := [.int (-4 : Int32)]) (st := []) (k := 0) X zl_RX9_108 zm_X9_refused (k_X9_refused (d := d - 1) (by omega) gq9) (by omega) zb_0 (by rw [zk_0]; rfl) rfl rfl (Nat.le_of_ble_eq_true rfl) (Nat.le_refl _) rfl dX9_cases_31 ?_
        show J 34 [(0, .ref 0), (1, .int a1), (2, .int a2), (3, .int a3)] [.int q9.1] 117 zRF q9.2
        exact zv_retI X e rfl dX9_cases_34
    · replace e := zit e c4
      exact zv_pick X [0] rfl (k_X9_cases_L18 q hd X  _ e)
-- X10_cases
def s_X10_cases_L19  (h : zHp) : Option (Int32 × zHp) :=
  (s_X10_refuse (-1 : Int32) h).bind fun q1 =>
  some (q1.1, q1.2)
def s_X10_cases (a1 : Int32) (a2 : Int32) (a3 : Int32) (h : zHp) : Option (Int32 × zHp) :=
  (s_X10_in a1 (0 : Int32) (5 : Int32) h).bind fun q1 =>
  if q1.1 = 0 then
    s_X10_cases_L19 q1.2
  else
    (s_X10_in a2 (0 : Int32) (11 : Int32) q1.2).bind fun q3 =>
    if q3.1 = 0 then
      s_X10_cases_L19 q3.2
    else
      if 0 ≤ a3 then
        if a3 ≤ (999 : Int32) then
          (zri q3.2 114 72 (((12 : Int32) * a1) + a2)).bind fun v7 =>
          (zui q3.2 114 72 (((12 : Int32) * a1) + a2) a3).bind fun h8 =>
          some (v7, h8)
        else
          (s_X10_refuse (-6 : Int32) q3.2).bind fun q9 =>
          some (q9.1, q9.2)
      else
        (s_X10_refuse (-4 : Int32) q3.2).bind fun q10 =>
        some (q10.1, q10.2)
set_option maxRecDepth 100000 in
set_option maxHeartbeats 4000000 in
theorem k_X10_cases_L19 {l : Launch} {D : va_G} {cy : Nat → ClassId} {S0 d : Nat} {J : zJ} (q : (Int32 × zHp)) (hd : 1 ≤ d) (X : zOK l D cy S0 d RX10 cX10_cases 5 (yX10_cases.name == "<init>") 117 117 (some .int) (zRT 117 zRF (some (.int q.1)) q.2) J) : ∀  (h : zHp), s_X10_cases_L19  h = some q → J 19 [(0, .ref 67)] [] 117 zRF h := by
  intro  h e
  unfold s_X10_cases_L19 at e
  refine zv_aload_n X dX10_cases_19 rfl rfl ?_
  refine zv_iconst (v := (-1 : Int32)) X dX10_cases_20 zic_m1 ?_
  refine zb e (fun q1 gq1 e => ?_)
  refine zv_callV (stk := [.int (-1 : Int32), .ref 67]) (as := [.int (-1 : Int32)]) (st := []) (k := 67) X zl_RX10_175 zm_X10_refuse (k_X10_refuse (d := d - 1) (by omega) gq1) (by omega) zb_67 (by rw [zk_67]; rfl) rfl rfl (Nat.le_of_ble_eq_true rfl) (Nat.le_refl _) rfl dX10_cases_21 ?_
  show J 24 [(0, .ref 67)] [.int q1.1] 117 zRF q1.2
  exact zv_retI X e rfl dX10_cases_24
set_option maxRecDepth 100000 in
set_option maxHeartbeats 4000000 in
theorem k_X10_cases {l : Launch} {D : va_G} {cy : Nat → ClassId} {S0 d : Nat} (hd : 1 ≤ d) {a1 : Int32} {a2 : Int32} {a3 : Int32} {h : zHp} {q : (Int32 × zHp)} (e : s_X10_cases a1 a2 a3 h = some q) : zCT l D cy S0 d yX10_cases cX10_cases 5 (some .int) [.ref 67, .int a1, .int a2, .int a3] 117 zRF h (some (.int q.1)) 117 zRF q.2 := by
  unfold s_X10_cases at e
  refine zCT_of RX10 rfl zm_X10_cases (Nat.le_refl _) (Nat.le_of_ble_eq_true rfl) (fun J X => ?_)
  show J 0 [(0, .ref 67), (1, .int a1), (2, .int a2), (3, .int a3)] [] 117 zRF h
  refine zv_iload_n X dX10_cases_0 rfl rfl ?_
  refine zv_iconst (v := (0 : Int32)) X dX10_cases_1 zic_0 ?_
  refine zv_iconst (v := (5 : Int32)) X dX10_cases_2 zic_5 ?_
  refine zb e (fun q1 gq1 e => ?_)
  refine zv_callS (stk := [.int (5 : Int32), .int (0 : Int32), .int a1]) (as := [.int a1, .int (0 : Int32), .int (5 : Int32)]) (st := []) X zl_RX10_168 zm_X10_in (k_X10_in (d := d - 1) (by omega) gq1) (by omega) rfl (Nat.le_of_ble_eq_true rfl) (Nat.le_refl _) rfl dX10_cases_3 ?_
  show J 6 [(0, .ref 67), (1, .int a1), (2, .int a2), (3, .int a3)] [.int q1.1] 117 zRF q1.2
  refine zv_if_eq (tgt := 19) X dX10_cases_6 (by decide) (fun c2 => ?_) (fun c2 => ?_)
  · replace e := zit e c2
    exact zv_pick X [0] rfl (k_X10_cases_L19 q hd X  _ e)
  · replace e := zif e c2
    refine zv_iload_n X dX10_cases_9 rfl rfl ?_
    refine zv_iconst (v := (0 : Int32)) X dX10_cases_10 zic_0 ?_
    refine zv_bipush (v := (11 : Int32)) X dX10_cases_11 zbp_11 ?_
    refine zb e (fun q3 gq3 e => ?_)
    refine zv_callS (stk := [.int (11 : Int32), .int (0 : Int32), .int a2]) (as := [.int a2, .int (0 : Int32), .int (11 : Int32)]) (st := []) X zl_RX10_168 zm_X10_in (k_X10_in (d := d - 1) (by omega) gq3) (by omega) rfl (Nat.le_of_ble_eq_true rfl) (Nat.le_refl _) rfl dX10_cases_13 ?_
    show J 16 [(0, .ref 67), (1, .int a1), (2, .int a2), (3, .int a3)] [.int q3.1] 117 zRF q3.2
    refine zv_if_ne (tgt := 25) X dX10_cases_16 (by decide) (fun c4 => ?_) (fun c4 => ?_)
    · replace e := zif e c4
      refine zv_iload_n X dX10_cases_25 rfl rfl ?_
      refine zv_if_ge (tgt := 36) X dX10_cases_26 (by decide) (fun c5 => ?_) (fun c5 => ?_)
      · replace e := zit e c5
        refine zv_iload_n X dX10_cases_36 rfl rfl ?_
        refine zv_sipush (v := (999 : Int32)) X dX10_cases_37 zsp_999 ?_
        refine zv_icmp_le (tgt := 50) X dX10_cases_40 (by decide) (fun c6 => ?_) (fun c6 => ?_)
        · replace e := zit e c6
          refine zv_aload_n X dX10_cases_50 rfl rfl ?_
          refine zv_getR X zf_RX10_154 znt_a zk_67 zb_67 zr_67_57 dX10_cases_51 ?_
          refine zv_bipush (v := (12 : Int32)) X dX10_cases_54 zbp_12 ?_
          refine zv_iload_n X dX10_cases_56 rfl rfl ?_
          refine zv_imul X dX10_cases_57 ?_
          refine zv_iload_n X dX10_cases_58 rfl rfl ?_
          refine zv_iadd X dX10_cases_59 ?_
          refine zb e (fun v7 gv7 e => ?_)
          refine zv_iald X zk_114 zl_114 zb_114 dX10_cases_60 gv7 ?_
          refine zv_istore (i := 4) (lv' := [(4, .int v7), (0, .ref 67), (1, .int a1), (2, .int a2), (3, .int a3)]) X dX10_cases_61 (Nat.le_of_ble_eq_true rfl) rfl ?_
          refine zv_aload_n X dX10_cases_63 rfl rfl ?_
          refine zv_getR X zf_RX10_154 znt_a zk_67 zb_67 zr_67_57 dX10_cases_64 ?_
          refine zv_bipush (v := (12 : Int32)) X dX10_cases_67 zbp_12 ?_
          refine zv_iload_n X dX10_cases_69 rfl rfl ?_
          refine zv_imul X dX10_cases_70 ?_
          refine zv_iload_n X dX10_cases_71 rfl rfl ?_
          refine zv_iadd X dX10_cases_72 ?_
          refine zv_iload_n X dX10_cases_73 rfl rfl ?_
          refine zb e (fun h8 gh8 e => ?_)
          refine zv_iast X zk_114 zl_114 zb_114 dX10_cases_74 gh8 ?_
          refine zv_iload X dX10_cases_75 rfl ?_
          exact zv_retI X e rfl dX10_cases_77
        · replace e := zif e c6
          refine zv_aload_n X dX10_cases_43 rfl rfl ?_
          refine zv_bipush (v := (-6 : Int32)) X dX10_cases_44 zbp_m6 ?_
          refine zb e (fun q9 gq9 e => ?_)
          refine zv_callV (stk := [.int (-6 : Int32), .ref 67]) (as := [.int (-6 : Int32)]) (st := []) (k := 67) X zl_RX10_175 zm_X10_refuse (k_X10_refuse (d := d - 1) (by omega) gq9) (by omega) zb_67 (by rw [zk_67]; rfl) rfl rfl (Nat.le_of_ble_eq_true rfl) (Nat.le_refl _) rfl dX10_cases_46 ?_
          show J 49 [(0, .ref 67), (1, .int a1), (2, .int a2), (3, .int a3)] [.int q9.1] 117 zRF q9.2
          exact zv_retI X e rfl dX10_cases_49
      · replace e := zif e c5
        refine zv_aload_n X dX10_cases_29 rfl rfl ?_
        refine zv_bipush (v := (-4 : Int32)) X dX10_cases_30 zbp_m4 ?_
        refine zb e (fun q10 gq10 e => ?_)
        refine zv_callV (stk := [.int (-4 : Int32), .ref 67]) (as := [.int (-4 : Int32)]) (st := []) (k := 67) X zl_RX10_175 zm_X10_refuse (k_X10_refuse (d := d - 1) (by omega) gq10) (by omega) zb_67 (by rw [zk_67]; rfl) rfl rfl (Nat.le_of_ble_eq_true rfl) (Nat.le_refl _) rfl dX10_cases_32 ?_
        show J 35 [(0, .ref 67), (1, .int a1), (2, .int a2), (3, .int a3)] [.int q10.1] 117 zRF q10.2
        exact zv_retI X e rfl dX10_cases_35
    · replace e := zit e c4
      exact zv_pick X [0] rfl (k_X10_cases_L19 q hd X  _ e)
-- X7_isStarted
def s_X7_isStarted_L15 (b0 : Int32) (h : zHp) : Option (Int32 × zHp) :=
  (zbo b0).bind fun u1 =>
  some (b0, h)
def s_X7_isStarted_L14  (h : zHp) : Option (Int32 × zHp) :=
  s_X7_isStarted_L15 (0 : Int32) h
def s_X7_isStarted (a0 : Int32) (h : zHp) : Option (Int32 × zHp) :=
  if a0 ≤ 0 then
    s_X7_isStarted_L14 h
  else
    if (12 : Int32) ≤ a0 then
      s_X7_isStarted_L14 h
    else
      s_X7_isStarted_L15 (1 : Int32) h
set_option maxRecDepth 100000 in
set_option maxHeartbeats 4000000 in
theorem k_X7_isStarted_L15 {l : Launch} {D : va_G} {cy : Nat → ClassId} {S0 d : Nat} {J : zJ} (q : (Int32 × zHp)) (hd : 0 ≤ d) (X : zOK l D cy S0 d RX7 cX7_isStarted 1 (yX7_isStarted.name == "<init>") 117 117 (some .boolean) (zRT 117 zRF (some (.int q.1)) q.2) J) : ∀ (b0 : Int32) (h : zHp), s_X7_isStarted_L15 b0 h = some q → J 15 [] [.int b0] 117 zRF h := by
  intro b0 h e
  unfold s_X7_isStarted_L15 at e
  refine zb e (fun u gu e => ?_)
  exact zv_retZ X e rfl (zbo_ok gu) dX7_isStarted_15
set_option maxRecDepth 100000 in
set_option maxHeartbeats 4000000 in
theorem k_X7_isStarted_L14 {l : Launch} {D : va_G} {cy : Nat → ClassId} {S0 d : Nat} {J : zJ} (q : (Int32 × zHp)) (hd : 0 ≤ d) (X : zOK l D cy S0 d RX7 cX7_isStarted 1 (yX7_isStarted.name == "<init>") 117 117 (some .boolean) (zRT 117 zRF (some (.int q.1)) q.2) J) : ∀  (h : zHp), s_X7_isStarted_L14  h = some q → J 14 [] [] 117 zRF h := by
  intro  h e
  unfold s_X7_isStarted_L14 at e
  refine zv_iconst (v := (0 : Int32)) X dX7_isStarted_14 zic_0 ?_
  exact k_X7_isStarted_L15 q hd X _ _ e
set_option maxRecDepth 100000 in
set_option maxHeartbeats 4000000 in
theorem k_X7_isStarted {l : Launch} {D : va_G} {cy : Nat → ClassId} {S0 d : Nat} (hd : 0 ≤ d) {a0 : Int32} {h : zHp} {q : (Int32 × zHp)} (e : s_X7_isStarted a0 h = some q) : zCT l D cy S0 d yX7_isStarted cX7_isStarted 1 (some .boolean) [.int a0] 117 zRF h (some (.int q.1)) 117 zRF q.2 := by
  unfold s_X7_isStarted at e
  refine zCT_of RX7 rfl zm_X7_isStarted (Nat.le_refl _) (Nat.le_of_ble_eq_true rfl) (fun J X => ?_)
  show J 0 [(0, .int a0)] [] 117 zRF h
  refine zv_iload_n X dX7_isStarted_0 rfl rfl ?_
  refine zv_if_le (tgt := 14) X dX7_isStarted_1 (by decide) (fun c1 => ?_) (fun c1 => ?_)
  · replace e := zit e c1
    exact zv_pick X [] rfl (k_X7_isStarted_L14 q hd X  _ e)
  · replace e := zif e c1
    refine zv_iload_n X dX7_isStarted_4 rfl rfl ?_
    refine zv_bipush (v := (12 : Int32)) X dX7_isStarted_5 zbp_12 ?_
    refine zv_icmp_ge (tgt := 14) X dX7_isStarted_7 (by decide) (fun c2 => ?_) (fun c2 => ?_)
    · replace e := zit e c2
      exact zv_pick X [] rfl (k_X7_isStarted_L14 q hd X  _ e)
    · replace e := zif e c2
      refine zv_iconst (v := (1 : Int32)) X dX7_isStarted_10 zic_1 ?_
      refine zv_goto (tgt := 15) X dX7_isStarted_11 (by decide) ?_
      exact zv_pick X [] rfl (k_X7_isStarted_L15 q hd X _ _ e)
-- X7_startedSize
def s_X7_startedSize_L25 (k4 : Int32 → Int32 → zHp → Option (Int32 × zHp)) (a1 : Int32) (a2 : Int32) (h : zHp) : Option (Int32 × zHp) :=
  k4 a1 (a2 + (1 : Int32)) h
def s_X7_startedSize_L4 : Nat → Int32 → Int32 → zHp → Option (Int32 × zHp)
  | 0, _, _, _ => none
  | f + 1, a1, a2, h =>
  if (6 : Int32) ≤ a2 then
    some (a1, h)
  else
    (zri h 60 6 a2).bind fun v2 =>
    (s_X7_isStarted v2 h).bind fun q3 =>
    if q3.1 = 0 then
      s_X7_startedSize_L25 (s_X7_startedSize_L4 f) a1 a2 q3.2
    else
      s_X7_startedSize_L25 (s_X7_startedSize_L4 f) (a1 + (1 : Int32)) a2 q3.2
def s_X7_startedSize  (h : zHp) : Option (Int32 × zHp) :=
  s_X7_startedSize_L4 zFU (0 : Int32) (0 : Int32) h
set_option maxRecDepth 100000 in
set_option maxHeartbeats 4000000 in
theorem k_X7_startedSize_L25 {l : Launch} {D : va_G} {cy : Nat → ClassId} {S0 d : Nat} {J : zJ} (q : (Int32 × zHp)) (hd : 1 ≤ d) (X : zOK l D cy S0 d RX7 cX7_startedSize 3 (yX7_startedSize.name == "<init>") 117 117 (some .int) (zRT 117 zRF (some (.int q.1)) q.2) J) {k4 : Int32 → Int32 → zHp → Option (Int32 × zHp)} (hk4 : ∀ (a1 : Int32) (a2 : Int32) (h : zHp), k4 a1 a2 h = some q → J 4 [(0, .ref 59), (1, .int a1), (2, .int a2)] [] 117 zRF h) : ∀ (a1 : Int32) (a2 : Int32) (h : zHp), s_X7_startedSize_L25 k4 a1 a2 h = some q → J 25 [(0, .ref 59), (1, .int a1), (2, .int a2)] [] 117 zRF h := by
  intro a1 a2 h e
  unfold s_X7_startedSize_L25 at e
  refine zv_iinc (k := 2) (v := a2 + (1 : Int32)) (lv' := [(2, .int (a2 + (1 : Int32))), (0, .ref 59), (1, .int a1)]) X dX7_startedSize_25 rfl rfl (Nat.le_of_ble_eq_true rfl) rfl ?_
  refine zv_goto (tgt := 4) X dX7_startedSize_28 (by decide) ?_
  exact zv_pick X [1, 2, 0] rfl (hk4 _ _ _ e)
set_option maxRecDepth 100000 in
set_option maxHeartbeats 4000000 in
theorem k_X7_startedSize_L4 {l : Launch} {D : va_G} {cy : Nat → ClassId} {S0 d : Nat} {J : zJ} (q : (Int32 × zHp)) (hd : 1 ≤ d) (X : zOK l D cy S0 d RX7 cX7_startedSize 3 (yX7_startedSize.name == "<init>") 117 117 (some .int) (zRT 117 zRF (some (.int q.1)) q.2) J) : ∀ (f : Nat) (a1 : Int32) (a2 : Int32) (h : zHp), s_X7_startedSize_L4 f a1 a2 h = some q → J 4 [(0, .ref 59), (1, .int a1), (2, .int a2)] [] 117 zRF h := by
  intro f
  induction f with
  | zero => intro _ _ h e; exact absurd e (fun z => by cases z)
  | succ f ih =>
    intro a1 a2 h e
    rw [s_X7_startedSize_L4] at e
    refine zv_iload_n X dX7_startedSize_4 rfl rfl ?_
    refine zv_bipush (v := (6 : Int32)) X dX7_startedSize_5 zbp_6 ?_
    refine zv_icmp_ge (tgt := 31) X dX7_startedSize_7 (by decide) (fun c1 => ?_) (fun c1 => ?_)
    · replace e := zit e c1
      refine zv_iload_n X dX7_startedSize_31 rfl rfl ?_
      exact zv_retI X e rfl dX7_startedSize_32
    · replace e := zif e c1
      refine zv_aload_n X dX7_startedSize_10 rfl rfl ?_
      refine zv_getR X zf_RX7_9 znt_a zk_59 zb_59 zr_59_0 dX7_startedSize_11 ?_
      refine zv_iload_n X dX7_startedSize_14 rfl rfl ?_
      refine zb e (fun v2 gv2 e => ?_)
      refine zv_iald X zk_60 zl_60 zb_60 dX7_startedSize_15 gv2 ?_
      refine zb e (fun q3 gq3 e => ?_)
      refine zv_callS (stk := [.int v2]) (as := [.int v2]) (st := []) X zl_RX7_65 zm_X7_isStarted (k_X7_isStarted (d := d - 1) (by omega) gq3) (by omega) rfl (Nat.le_of_ble_eq_true rfl) (Nat.le_refl _) rfl dX7_startedSize_16 ?_
      show J 19 [(0, .ref 59), (1, .int a1), (2, .int a2)] [.int q3.1] 117 zRF q3.2
      refine zv_if_eq (tgt := 25) X dX7_startedSize_19 (by decide) (fun c4 => ?_) (fun c4 => ?_)
      · replace e := zit e c4
        exact k_X7_startedSize_L25 q hd X ih _ _ _ e
      · replace e := zif e c4
        refine zv_iinc (k := 1) (v := a1 + (1 : Int32)) (lv' := [(1, .int (a1 + (1 : Int32))), (0, .ref 59), (2, .int a2)]) X dX7_startedSize_22 rfl rfl (Nat.le_of_ble_eq_true rfl) rfl ?_
        exact zv_pick X [1, 0, 2] rfl (k_X7_startedSize_L25 q hd X ih _ _ _ e)
set_option maxRecDepth 100000 in
set_option maxHeartbeats 4000000 in
theorem k_X7_startedSize {l : Launch} {D : va_G} {cy : Nat → ClassId} {S0 d : Nat} (hd : 1 ≤ d) {h : zHp} {q : (Int32 × zHp)} (e : s_X7_startedSize  h = some q) : zCT l D cy S0 d yX7_startedSize cX7_startedSize 3 (some .int) [.ref 59] 117 zRF h (some (.int q.1)) 117 zRF q.2 := by
  unfold s_X7_startedSize at e
  refine zCT_of RX7 rfl zm_X7_startedSize (Nat.le_refl _) (Nat.le_of_ble_eq_true rfl) (fun J X => ?_)
  show J 0 [(0, .ref 59)] [] 117 zRF h
  refine zv_iconst (v := (0 : Int32)) X dX7_startedSize_0 zic_0 ?_
  refine zv_istore_n (i := 1) (lv' := [(1, .int (0 : Int32)), (0, .ref 59)]) X dX7_startedSize_1 rfl (Nat.le_of_ble_eq_true rfl) rfl ?_
  refine zv_iconst (v := (0 : Int32)) X dX7_startedSize_2 zic_0 ?_
  refine zv_istore_n (i := 2) (lv' := [(2, .int (0 : Int32)), (1, .int (0 : Int32)), (0, .ref 59)]) X dX7_startedSize_3 rfl (Nat.le_of_ble_eq_true rfl) rfl ?_
  exact zv_pick X [2, 1, 0] rfl (k_X7_startedSize_L4 q hd X _ _ _ _ e)
-- X7_neverSize
def s_X7_neverSize_L24 (k4 : Int32 → Int32 → zHp → Option (Int32 × zHp)) (a1 : Int32) (a2 : Int32) (h : zHp) : Option (Int32 × zHp) :=
  k4 a1 (a2 + (1 : Int32)) h
def s_X7_neverSize_L4 : Nat → Int32 → Int32 → zHp → Option (Int32 × zHp)
  | 0, _, _, _ => none
  | f + 1, a1, a2, h =>
  if (6 : Int32) ≤ a2 then
    some (a1, h)
  else
    (zri h 60 6 a2).bind fun v2 =>
    if v2 = (12 : Int32) then
      s_X7_neverSize_L24 (s_X7_neverSize_L4 f) (a1 + (1 : Int32)) a2 h
    else
      s_X7_neverSize_L24 (s_X7_neverSize_L4 f) a1 a2 h
def s_X7_neverSize  (h : zHp) : Option (Int32 × zHp) :=
  s_X7_neverSize_L4 zFU (0 : Int32) (0 : Int32) h
set_option maxRecDepth 100000 in
set_option maxHeartbeats 4000000 in
theorem k_X7_neverSize_L24 {l : Launch} {D : va_G} {cy : Nat → ClassId} {S0 d : Nat} {J : zJ} (q : (Int32 × zHp)) (hd : 0 ≤ d) (X : zOK l D cy S0 d RX7 cX7_neverSize 3 (yX7_neverSize.name == "<init>") 117 117 (some .int) (zRT 117 zRF (some (.int q.1)) q.2) J) {k4 : Int32 → Int32 → zHp → Option (Int32 × zHp)} (hk4 : ∀ (a1 : Int32) (a2 : Int32) (h : zHp), k4 a1 a2 h = some q → J 4 [(0, .ref 59), (1, .int a1), (2, .int a2)] [] 117 zRF h) : ∀ (a1 : Int32) (a2 : Int32) (h : zHp), s_X7_neverSize_L24 k4 a1 a2 h = some q → J 24 [(0, .ref 59), (1, .int a1), (2, .int a2)] [] 117 zRF h := by
  intro a1 a2 h e
  unfold s_X7_neverSize_L24 at e
  refine zv_iinc (k := 2) (v := a2 + (1 : Int32)) (lv' := [(2, .int (a2 + (1 : Int32))), (0, .ref 59), (1, .int a1)]) X dX7_neverSize_24 rfl rfl (Nat.le_of_ble_eq_true rfl) rfl ?_
  refine zv_goto (tgt := 4) X dX7_neverSize_27 (by decide) ?_
  exact zv_pick X [1, 2, 0] rfl (hk4 _ _ _ e)
set_option maxRecDepth 100000 in
set_option maxHeartbeats 4000000 in
theorem k_X7_neverSize_L4 {l : Launch} {D : va_G} {cy : Nat → ClassId} {S0 d : Nat} {J : zJ} (q : (Int32 × zHp)) (hd : 0 ≤ d) (X : zOK l D cy S0 d RX7 cX7_neverSize 3 (yX7_neverSize.name == "<init>") 117 117 (some .int) (zRT 117 zRF (some (.int q.1)) q.2) J) : ∀ (f : Nat) (a1 : Int32) (a2 : Int32) (h : zHp), s_X7_neverSize_L4 f a1 a2 h = some q → J 4 [(0, .ref 59), (1, .int a1), (2, .int a2)] [] 117 zRF h := by
  intro f
  induction f with
  | zero => intro _ _ h e; exact absurd e (fun z => by cases z)
  | succ f ih =>
    intro a1 a2 h e
    rw [s_X7_neverSize_L4] at e
    refine zv_iload_n X dX7_neverSize_4 rfl rfl ?_
    refine zv_bipush (v := (6 : Int32)) X dX7_neverSize_5 zbp_6 ?_
    refine zv_icmp_ge (tgt := 30) X dX7_neverSize_7 (by decide) (fun c1 => ?_) (fun c1 => ?_)
    · replace e := zit e c1
      refine zv_iload_n X dX7_neverSize_30 rfl rfl ?_
      exact zv_retI X e rfl dX7_neverSize_31
    · replace e := zif e c1
      refine zv_aload_n X dX7_neverSize_10 rfl rfl ?_
      refine zv_getR X zf_RX7_9 znt_a zk_59 zb_59 zr_59_0 dX7_neverSize_11 ?_
      refine zv_iload_n X dX7_neverSize_14 rfl rfl ?_
      refine zb e (fun v2 gv2 e => ?_)
      refine zv_iald X zk_60 zl_60 zb_60 dX7_neverSize_15 gv2 ?_
      refine zv_bipush (v := (12 : Int32)) X dX7_neverSize_16 zbp_12 ?_
      refine zv_icmp_ne (tgt := 24) X dX7_neverSize_18 (by decide) (fun c3 => ?_) (fun c3 => ?_)
      · replace e := zif e c3
        exact k_X7_neverSize_L24 q hd X ih _ _ _ e
      · replace e := zit e c3
        refine zv_iinc (k := 1) (v := a1 + (1 : Int32)) (lv' := [(1, .int (a1 + (1 : Int32))), (0, .ref 59), (2, .int a2)]) X dX7_neverSize_21 rfl rfl (Nat.le_of_ble_eq_true rfl) rfl ?_
        exact zv_pick X [1, 0, 2] rfl (k_X7_neverSize_L24 q hd X ih _ _ _ e)
set_option maxRecDepth 100000 in
set_option maxHeartbeats 4000000 in
theorem k_X7_neverSize {l : Launch} {D : va_G} {cy : Nat → ClassId} {S0 d : Nat} (hd : 0 ≤ d) {h : zHp} {q : (Int32 × zHp)} (e : s_X7_neverSize  h = some q) : zCT l D cy S0 d yX7_neverSize cX7_neverSize 3 (some .int) [.ref 59] 117 zRF h (some (.int q.1)) 117 zRF q.2 := by
  unfold s_X7_neverSize at e
  refine zCT_of RX7 rfl zm_X7_neverSize (Nat.le_refl _) (Nat.le_of_ble_eq_true rfl) (fun J X => ?_)
  show J 0 [(0, .ref 59)] [] 117 zRF h
  refine zv_iconst (v := (0 : Int32)) X dX7_neverSize_0 zic_0 ?_
  refine zv_istore_n (i := 1) (lv' := [(1, .int (0 : Int32)), (0, .ref 59)]) X dX7_neverSize_1 rfl (Nat.le_of_ble_eq_true rfl) rfl ?_
  refine zv_iconst (v := (0 : Int32)) X dX7_neverSize_2 zic_0 ?_
  refine zv_istore_n (i := 2) (lv' := [(2, .int (0 : Int32)), (1, .int (0 : Int32)), (0, .ref 59)]) X dX7_neverSize_3 rfl (Nat.le_of_ble_eq_true rfl) rfl ?_
  exact zv_pick X [2, 1, 0] rfl (k_X7_neverSize_L4 q hd X _ _ _ _ e)
-- X7_hasEffect
def s_X7_hasEffect_L19 (b0 : Int32) (h : zHp) : Option (Int32 × zHp) :=
  (zbo b0).bind fun u1 =>
  some (b0, h)
def s_X7_hasEffect_L18  (h : zHp) : Option (Int32 × zHp) :=
  s_X7_hasEffect_L19 (0 : Int32) h
def s_X7_hasEffect  (h : zHp) : Option (Int32 × zHp) :=
  (s_X7_startedSize h).bind fun q1 =>
  if q1.1 ≤ 0 then
    s_X7_hasEffect_L18 q1.2
  else
    (s_X7_neverSize q1.2).bind fun q3 =>
    if q3.1 ≤ 0 then
      s_X7_hasEffect_L18 q3.2
    else
      s_X7_hasEffect_L19 (1 : Int32) q3.2
set_option maxRecDepth 100000 in
set_option maxHeartbeats 4000000 in
theorem k_X7_hasEffect_L19 {l : Launch} {D : va_G} {cy : Nat → ClassId} {S0 d : Nat} {J : zJ} (q : (Int32 × zHp)) (hd : 2 ≤ d) (X : zOK l D cy S0 d RX7 cX7_hasEffect 1 (yX7_hasEffect.name == "<init>") 117 117 (some .boolean) (zRT 117 zRF (some (.int q.1)) q.2) J) : ∀ (b0 : Int32) (h : zHp), s_X7_hasEffect_L19 b0 h = some q → J 19 [] [.int b0] 117 zRF h := by
  intro b0 h e
  unfold s_X7_hasEffect_L19 at e
  refine zb e (fun u gu e => ?_)
  exact zv_retZ X e rfl (zbo_ok gu) dX7_hasEffect_19
set_option maxRecDepth 100000 in
set_option maxHeartbeats 4000000 in
theorem k_X7_hasEffect_L18 {l : Launch} {D : va_G} {cy : Nat → ClassId} {S0 d : Nat} {J : zJ} (q : (Int32 × zHp)) (hd : 2 ≤ d) (X : zOK l D cy S0 d RX7 cX7_hasEffect 1 (yX7_hasEffect.name == "<init>") 117 117 (some .boolean) (zRT 117 zRF (some (.int q.1)) q.2) J) : ∀  (h : zHp), s_X7_hasEffect_L18  h = some q → J 18 [] [] 117 zRF h := by
  intro  h e
  unfold s_X7_hasEffect_L18 at e
  refine zv_iconst (v := (0 : Int32)) X dX7_hasEffect_18 zic_0 ?_
  exact k_X7_hasEffect_L19 q hd X _ _ e
set_option maxRecDepth 100000 in
set_option maxHeartbeats 4000000 in
theorem k_X7_hasEffect {l : Launch} {D : va_G} {cy : Nat → ClassId} {S0 d : Nat} (hd : 2 ≤ d) {h : zHp} {q : (Int32 × zHp)} (e : s_X7_hasEffect  h = some q) : zCT l D cy S0 d yX7_hasEffect cX7_hasEffect 1 (some .boolean) [.ref 59] 117 zRF h (some (.int q.1)) 117 zRF q.2 := by
  unfold s_X7_hasEffect at e
  refine zCT_of RX7 rfl zm_X7_hasEffect (Nat.le_refl _) (Nat.le_of_ble_eq_true rfl) (fun J X => ?_)
  show J 0 [(0, .ref 59)] [] 117 zRF h
  refine zv_aload_n X dX7_hasEffect_0 rfl rfl ?_
  refine zb e (fun q1 gq1 e => ?_)
  refine zv_callV (stk := [.ref 59]) (as := []) (st := []) (k := 59) X zl_RX7_41 zm_X7_startedSize (k_X7_startedSize (d := d - 1) (by omega) gq1) (by omega) zb_59 (by rw [zk_59]; rfl) rfl rfl (Nat.le_of_ble_eq_true rfl) (Nat.le_refl _) rfl dX7_hasEffect_1 ?_
  show J 4 [(0, .ref 59)] [.int q1.1] 117 zRF q1.2
  refine zv_if_le (tgt := 18) X dX7_hasEffect_4 (by decide) (fun c2 => ?_) (fun c2 => ?_)
  · replace e := zit e c2
    exact zv_pick X [] rfl (k_X7_hasEffect_L18 q hd X  _ e)
  · replace e := zif e c2
    refine zv_aload_n X dX7_hasEffect_7 rfl rfl ?_
    refine zb e (fun q3 gq3 e => ?_)
    refine zv_callV (stk := [.ref 59]) (as := []) (st := []) (k := 59) X zl_RX7_45 zm_X7_neverSize (k_X7_neverSize (d := d - 1) (by omega) gq3) (by omega) zb_59 (by rw [zk_59]; rfl) rfl rfl (Nat.le_of_ble_eq_true rfl) (Nat.le_refl _) rfl dX7_hasEffect_8 ?_
    show J 11 [(0, .ref 59)] [.int q3.1] 117 zRF q3.2
    refine zv_if_le (tgt := 18) X dX7_hasEffect_11 (by decide) (fun c4 => ?_) (fun c4 => ?_)
    · replace e := zit e c4
      exact zv_pick X [] rfl (k_X7_hasEffect_L18 q hd X  _ e)
    · replace e := zif e c4
      refine zv_iconst (v := (1 : Int32)) X dX7_hasEffect_14 zic_1 ?_
      refine zv_goto (tgt := 19) X dX7_hasEffect_15 (by decide) ?_
      exact zv_pick X [] rfl (k_X7_hasEffect_L19 q hd X _ _ e)
-- X7_fillRises
def s_X7_fillRises_L57 (k2 : Int32 → zHp → Option zHp) : Nat → Int32 → Int64 → Int64 → Int32 → zHp → Option zHp
  | 0, _, _, _, _, _ => none
  | f + 1, a1, a2, a4, a6, h =>
  if (12 : Int32) ≤ a6 then
    k2 (a1 + (1 : Int32)) h
  else
    (some ((a1 * (12 : Int32)) + a6)).bind fun v2 =>
    (zldiv (27720 : Int64) (((12 : Int32) - a6).toInt64)).bind fun v3 =>
    (zldiv (27720 : Int64) a6.toInt64).bind fun v4 =>
    (zuj h 62 72 v2 (((a2 - a4) * v3) - (a4 * v4))).bind fun h5 =>
    (zri h5 61 72 v2).bind fun v6 =>
    (some (a4 + v6.toInt64)).bind fun v7 =>
    s_X7_fillRises_L57 k2 f a1 a2 v7 (a6 + (1 : Int32)) h5
def s_X7_fillRises_L13 (k2 : Int32 → zHp → Option zHp) : Nat → Int32 → Int64 → Int32 → zHp → Option zHp
  | 0, _, _, _, _ => none
  | f + 1, a1, a2, a4, h =>
  if (12 : Int32) ≤ a4 then
    (zri h 61 72 (a1 * (12 : Int32))).bind fun v2 =>
    s_X7_fillRises_L57 k2 zFU a1 a2 v2.toInt64 (1 : Int32) h
  else
    (zri h 61 72 ((a1 * (12 : Int32)) + a4)).bind fun v3 =>
    (some (a2 + v3.toInt64)).bind fun v4 =>
    s_X7_fillRises_L13 k2 f a1 v4 (a4 + (1 : Int32)) h
def s_X7_fillRises_L2 : Nat → Int32 → zHp → Option zHp
  | 0, _, _ => none
  | f + 1, a1, h =>
  if (6 : Int32) ≤ a1 then
    some h
  else
    s_X7_fillRises_L13 (s_X7_fillRises_L2 f) zFU a1 (0 : Int64) (0 : Int32) h
def s_X7_fillRises  (h : zHp) : Option zHp :=
  s_X7_fillRises_L2 zFU (0 : Int32) h
set_option maxRecDepth 100000 in
set_option maxHeartbeats 4000000 in
theorem k_X7_fillRises_L57 {l : Launch} {D : va_G} {cy : Nat → ClassId} {S0 d : Nat} {J : zJ} (q : zHp) (hd : 0 ≤ d) (X : zOK l D cy S0 d RX7 cX7_fillRises 8 (yX7_fillRises.name == "<init>") 117 117 none (zRT 117 zRF none q) J) {k2 : Int32 → zHp → Option zHp} (hk2 : ∀ (a1 : Int32) (h : zHp), k2 a1 h = some q → J 2 [(0, .ref 59), (1, .int a1)] [] 117 zRF h) : ∀ (f : Nat) (a1 : Int32) (a2 : Int64) (a4 : Int64) (a6 : Int32) (h : zHp), s_X7_fillRises_L57 k2 f a1 a2 a4 a6 h = some q → J 57 [(0, .ref 59), (1, .int a1), (2, .long a2), (4, .long a4), (6, .int a6)] [] 117 zRF h := by
  intro f
  induction f with
  | zero => intro _ _ _ _ h e; exact absurd e (fun z => by cases z)
  | succ f ih =>
    intro a1 a2 a4 a6 h e
    rw [s_X7_fillRises_L57] at e
    refine zv_iload X dX7_fillRises_57 rfl ?_
    refine zv_bipush (v := (12 : Int32)) X dX7_fillRises_59 zbp_12 ?_
    refine zv_icmp_ge (tgt := 125) X dX7_fillRises_61 (by decide) (fun c1 => ?_) (fun c1 => ?_)
    · replace e := zit e c1
      refine zv_iinc (k := 1) (v := a1 + (1 : Int32)) (lv' := [(1, .int (a1 + (1 : Int32))), (0, .ref 59), (2, .long a2), (4, .long a4), (6, .int a6)]) X dX7_fillRises_125 rfl rfl (Nat.le_of_ble_eq_true rfl) rfl ?_
      refine zv_goto (tgt := 2) X dX7_fillRises_128 (by decide) ?_
      exact zv_pick X [1, 0] rfl (hk2 _ _ e)
    · replace e := zif e c1
      refine zv_iload_n X dX7_fillRises_64 rfl rfl ?_
      refine zv_bipush (v := (12 : Int32)) X dX7_fillRises_65 zbp_12 ?_
      refine zv_imul X dX7_fillRises_67 ?_
      refine zv_iload X dX7_fillRises_68 rfl ?_
      refine zv_iadd X dX7_fillRises_70 ?_
      refine zb e (fun v2 gv2 e => ?_)
      refine zv_nmI X gv2 ?_
      refine zv_istore (i := 7) (lv' := [(7, .int v2), (0, .ref 59), (1, .int a1), (2, .long a2), (4, .long a4), (6, .int a6)]) X dX7_fillRises_71 (Nat.le_of_ble_eq_true rfl) rfl ?_
      refine zv_aload_n X dX7_fillRises_73 rfl rfl ?_
      refine zv_getR X zf_RX7_18 znt_a zk_59 zb_59 zr_59_2 dX7_fillRises_74 ?_
      refine zv_iload X dX7_fillRises_77 rfl ?_
      refine zv_lload_n X dX7_fillRises_79 rfl rfl ?_
      refine zv_lload X dX7_fillRises_80 rfl ?_
      refine zv_lsub X dX7_fillRises_82 ?_
      refine zv_ldc2 (v := (27720 : Int64)) X zc_RX7_55 dX7_fillRises_83 ?_
      refine zv_bipush (v := (12 : Int32)) X dX7_fillRises_86 zbp_12 ?_
      refine zv_iload X dX7_fillRises_88 rfl ?_
      refine zv_isub X dX7_fillRises_90 ?_
      refine zv_i2l X dX7_fillRises_91 ?_
      refine zb e (fun v3 gv3 e => ?_)
      refine zv_ldiv X dX7_fillRises_92 gv3 ?_
      refine zv_lmul X dX7_fillRises_93 ?_
      refine zv_lload X dX7_fillRises_94 rfl ?_
      refine zv_ldc2 (v := (27720 : Int64)) X zc_RX7_55 dX7_fillRises_96 ?_
      refine zv_iload X dX7_fillRises_99 rfl ?_
      refine zv_i2l X dX7_fillRises_101 ?_
      refine zb e (fun v4 gv4 e => ?_)
      refine zv_ldiv X dX7_fillRises_102 gv4 ?_
      refine zv_lmul X dX7_fillRises_103 ?_
      refine zv_lsub X dX7_fillRises_104 ?_
      refine zb e (fun h5 gh5 e => ?_)
      refine zv_last X zk_62 zl_62 zb_62 dX7_fillRises_105 gh5 ?_
      refine zv_lload X dX7_fillRises_106 rfl ?_
      refine zv_aload_n X dX7_fillRises_108 rfl rfl ?_
      refine zv_getR X zf_RX7_15 znt_a zk_59 zb_59 zr_59_1 dX7_fillRises_109 ?_
      refine zv_iload X dX7_fillRises_112 rfl ?_
      refine zb e (fun v6 gv6 e => ?_)
      refine zv_iald X zk_61 zl_61 zb_61 dX7_fillRises_114 gv6 ?_
      refine zv_i2l X dX7_fillRises_115 ?_
      refine zv_ladd X dX7_fillRises_116 ?_
      refine zb e (fun v7 gv7 e => ?_)
      refine zv_nmJ X gv7 ?_
      refine zv_lstore (i := 4) (lv' := [(4, .long v7), (7, .int v2), (0, .ref 59), (1, .int a1), (2, .long a2), (6, .int a6)]) X dX7_fillRises_117 (Nat.le_of_ble_eq_true rfl) rfl ?_
      refine zv_iinc (k := 5) (v := a6 + (1 : Int32)) (lv' := [(6, .int (a6 + (1 : Int32))), (4, .long v7), (7, .int v2), (0, .ref 59), (1, .int a1), (2, .long a2)]) X dX7_fillRises_119 rfl rfl (Nat.le_of_ble_eq_true rfl) rfl ?_
      refine zv_goto (tgt := 57) X dX7_fillRises_122 (by decide) ?_
      exact zv_pick X [3, 4, 5, 1, 0] rfl (ih _ _ _ _ _ e)
set_option maxRecDepth 100000 in
set_option maxHeartbeats 4000000 in
theorem k_X7_fillRises_L13 {l : Launch} {D : va_G} {cy : Nat → ClassId} {S0 d : Nat} {J : zJ} (q : zHp) (hd : 0 ≤ d) (X : zOK l D cy S0 d RX7 cX7_fillRises 8 (yX7_fillRises.name == "<init>") 117 117 none (zRT 117 zRF none q) J) {k2 : Int32 → zHp → Option zHp} (hk2 : ∀ (a1 : Int32) (h : zHp), k2 a1 h = some q → J 2 [(0, .ref 59), (1, .int a1)] [] 117 zRF h) : ∀ (f : Nat) (a1 : Int32) (a2 : Int64) (a4 : Int32) (h : zHp), s_X7_fillRises_L13 k2 f a1 a2 a4 h = some q → J 13 [(0, .ref 59), (1, .int a1), (2, .long a2), (4, .int a4)] [] 117 zRF h := by
  intro f
  induction f with
  | zero => intro _ _ _ h e; exact absurd e (fun z => by cases z)
  | succ f ih =>
    intro a1 a2 a4 h e
    rw [s_X7_fillRises_L13] at e
    refine zv_iload X dX7_fillRises_13 rfl ?_
    refine zv_bipush (v := (12 : Int32)) X dX7_fillRises_15 zbp_12 ?_
    refine zv_icmp_ge (tgt := 42) X dX7_fillRises_17 (by decide) (fun c1 => ?_) (fun c1 => ?_)
    · replace e := zit e c1
      refine zv_aload_n X dX7_fillRises_42 rfl rfl ?_
      refine zv_getR X zf_RX7_15 znt_a zk_59 zb_59 zr_59_1 dX7_fillRises_43 ?_
      refine zv_iload_n X dX7_fillRises_46 rfl rfl ?_
      refine zv_bipush (v := (12 : Int32)) X dX7_fillRises_47 zbp_12 ?_
      refine zv_imul X dX7_fillRises_49 ?_
      refine zb e (fun v2 gv2 e => ?_)
      refine zv_iald X zk_61 zl_61 zb_61 dX7_fillRises_50 gv2 ?_
      refine zv_i2l X dX7_fillRises_51 ?_
      refine zv_lstore (i := 4) (lv' := [(4, .long v2.toInt64), (0, .ref 59), (1, .int a1), (2, .long a2)]) X dX7_fillRises_52 (Nat.le_of_ble_eq_true rfl) rfl ?_
      refine zv_iconst (v := (1 : Int32)) X dX7_fillRises_54 zic_1 ?_
      refine zv_istore (i := 6) (lv' := [(6, .int (1 : Int32)), (4, .long v2.toInt64), (0, .ref 59), (1, .int a1), (2, .long a2)]) X dX7_fillRises_55 (Nat.le_of_ble_eq_true rfl) rfl ?_
      exact zv_pick X [2, 3, 4, 1, 0] rfl (k_X7_fillRises_L57 q hd X hk2 _ _ _ _ _ _ e)
    · replace e := zif e c1
      refine zv_lload_n X dX7_fillRises_20 rfl rfl ?_
      refine zv_aload_n X dX7_fillRises_21 rfl rfl ?_
      refine zv_getR X zf_RX7_15 znt_a zk_59 zb_59 zr_59_1 dX7_fillRises_22 ?_
      refine zv_iload_n X dX7_fillRises_25 rfl rfl ?_
      refine zv_bipush (v := (12 : Int32)) X dX7_fillRises_26 zbp_12 ?_
      refine zv_imul X dX7_fillRises_28 ?_
      refine zv_iload X dX7_fillRises_29 rfl ?_
      refine zv_iadd X dX7_fillRises_31 ?_
      refine zb e (fun v3 gv3 e => ?_)
      refine zv_iald X zk_61 zl_61 zb_61 dX7_fillRises_32 gv3 ?_
      refine zv_i2l X dX7_fillRises_33 ?_
      refine zv_ladd X dX7_fillRises_34 ?_
      refine zb e (fun v4 gv4 e => ?_)
      refine zv_nmJ X gv4 ?_
      refine zv_lstore_n (i := 2) (lv' := [(2, .long v4), (0, .ref 59), (1, .int a1), (4, .int a4)]) X dX7_fillRises_35 rfl (Nat.le_of_ble_eq_true rfl) rfl ?_
      refine zv_iinc (k := 3) (v := a4 + (1 : Int32)) (lv' := [(4, .int (a4 + (1 : Int32))), (2, .long v4), (0, .ref 59), (1, .int a1)]) X dX7_fillRises_36 rfl rfl (Nat.le_of_ble_eq_true rfl) rfl ?_
      refine zv_goto (tgt := 13) X dX7_fillRises_39 (by decide) ?_
      exact zv_pick X [2, 3, 1, 0] rfl (ih _ _ _ _ e)
set_option maxRecDepth 100000 in
set_option maxHeartbeats 4000000 in
theorem k_X7_fillRises_L2 {l : Launch} {D : va_G} {cy : Nat → ClassId} {S0 d : Nat} {J : zJ} (q : zHp) (hd : 0 ≤ d) (X : zOK l D cy S0 d RX7 cX7_fillRises 8 (yX7_fillRises.name == "<init>") 117 117 none (zRT 117 zRF none q) J) : ∀ (f : Nat) (a1 : Int32) (h : zHp), s_X7_fillRises_L2 f a1 h = some q → J 2 [(0, .ref 59), (1, .int a1)] [] 117 zRF h := by
  intro f
  induction f with
  | zero => intro _ h e; exact absurd e (fun z => by cases z)
  | succ f ih =>
    intro a1 h e
    rw [s_X7_fillRises_L2] at e
    refine zv_iload_n X dX7_fillRises_2 rfl rfl ?_
    refine zv_bipush (v := (6 : Int32)) X dX7_fillRises_3 zbp_6 ?_
    refine zv_icmp_ge (tgt := 131) X dX7_fillRises_5 (by decide) (fun c1 => ?_) (fun c1 => ?_)
    · replace e := zit e c1
      exact zv_retV X e rfl dX7_fillRises_131
    · replace e := zif e c1
      refine zv_lconst (v := (0 : Int64)) X dX7_fillRises_8 rfl ?_
      refine zv_lstore_n (i := 2) (lv' := [(2, .long (0 : Int64)), (0, .ref 59), (1, .int a1)]) X dX7_fillRises_9 rfl (Nat.le_of_ble_eq_true rfl) rfl ?_
      refine zv_iconst (v := (0 : Int32)) X dX7_fillRises_10 zic_0 ?_
      refine zv_istore (i := 4) (lv' := [(4, .int (0 : Int32)), (2, .long (0 : Int64)), (0, .ref 59), (1, .int a1)]) X dX7_fillRises_11 (Nat.le_of_ble_eq_true rfl) rfl ?_
      exact zv_pick X [2, 3, 1, 0] rfl (k_X7_fillRises_L13 q hd X ih _ _ _ _ _ e)
set_option maxRecDepth 100000 in
set_option maxHeartbeats 4000000 in
theorem k_X7_fillRises {l : Launch} {D : va_G} {cy : Nat → ClassId} {S0 d : Nat} (hd : 0 ≤ d) {h : zHp} {q : zHp} (e : s_X7_fillRises  h = some q) : zCT l D cy S0 d yX7_fillRises cX7_fillRises 8 none [.ref 59] 117 zRF h none 117 zRF q := by
  unfold s_X7_fillRises at e
  refine zCT_of RX7 rfl zm_X7_fillRises (Nat.le_refl _) (Nat.le_of_ble_eq_true rfl) (fun J X => ?_)
  show J 0 [(0, .ref 59)] [] 117 zRF h
  refine zv_iconst (v := (0 : Int32)) X dX7_fillRises_0 zic_0 ?_
  refine zv_istore_n (i := 1) (lv' := [(1, .int (0 : Int32)), (0, .ref 59)]) X dX7_fillRises_1 rfl (Nat.le_of_ble_eq_true rfl) rfl ?_
  exact zv_pick X [1, 0] rfl (k_X7_fillRises_L2 q hd X _ _ _ e)
-- X7_neverRise_60
def s_X7_neverRise_60_L36 (k5 : Int32 → Int64 → Int32 → zHp → Option (Int64 × zHp)) (a2 : Int32) (a3 : Int64) (a5 : Int32) (h : zHp) : Option (Int64 × zHp) :=
  k5 a2 a3 (a5 + (1 : Int32)) h
def s_X7_neverRise_60_L5 : Nat → Int32 → Int64 → Int32 → zHp → Option (Int64 × zHp)
  | 0, _, _, _, _ => none
  | f + 1, a2, a3, a5, h =>
  if (6 : Int32) ≤ a5 then
    some (a3, h)
  else
    (zri h 60 6 a5).bind fun v2 =>
    if v2 = (12 : Int32) then
      (zrj h 62 72 ((a5 * (12 : Int32)) + a2)).bind fun v4 =>
      (some (a3 + v4)).bind fun v5 =>
      s_X7_neverRise_60_L36 (s_X7_neverRise_60_L5 f) a2 v5 a5 h
    else
      s_X7_neverRise_60_L36 (s_X7_neverRise_60_L5 f) a2 a3 a5 h
def s_X7_neverRise_60 (a2 : Int32) (h : zHp) : Option (Int64 × zHp) :=
  s_X7_neverRise_60_L5 zFU a2 (0 : Int64) (0 : Int32) h
set_option maxRecDepth 100000 in
set_option maxHeartbeats 4000000 in
theorem k_X7_neverRise_60_L36 {l : Launch} {D : va_G} {cy : Nat → ClassId} {S0 d : Nat} {J : zJ} (q : (Int64 × zHp)) (hd : 0 ≤ d) (X : zOK l D cy S0 d RX7 cX7_neverRise 6 (yX7_neverRise.name == "<init>") 117 117 (some .long) (zRT 117 zRF (some (.long q.1)) q.2) J) {k5 : Int32 → Int64 → Int32 → zHp → Option (Int64 × zHp)} (hk5 : ∀ (a2 : Int32) (a3 : Int64) (a5 : Int32) (h : zHp), k5 a2 a3 a5 h = some q → J 5 [(0, .ref 59), (1, .ref 60), (2, .int a2), (3, .long a3), (5, .int a5)] [] 117 zRF h) : ∀ (a2 : Int32) (a3 : Int64) (a5 : Int32) (h : zHp), s_X7_neverRise_60_L36 k5 a2 a3 a5 h = some q → J 36 [(0, .ref 59), (1, .ref 60), (2, .int a2), (3, .long a3), (5, .int a5)] [] 117 zRF h := by
  intro a2 a3 a5 h e
  unfold s_X7_neverRise_60_L36 at e
  refine zv_iinc (k := 4) (v := a5 + (1 : Int32)) (lv' := [(5, .int (a5 + (1 : Int32))), (0, .ref 59), (1, .ref 60), (2, .int a2), (3, .long a3)]) X dX7_neverRise_36 rfl rfl (Nat.le_of_ble_eq_true rfl) rfl ?_
  refine zv_goto (tgt := 5) X dX7_neverRise_39 (by decide) ?_
  exact zv_pick X [1, 2, 3, 4, 0] rfl (hk5 _ _ _ _ e)
set_option maxRecDepth 100000 in
set_option maxHeartbeats 4000000 in
theorem k_X7_neverRise_60_L5 {l : Launch} {D : va_G} {cy : Nat → ClassId} {S0 d : Nat} {J : zJ} (q : (Int64 × zHp)) (hd : 0 ≤ d) (X : zOK l D cy S0 d RX7 cX7_neverRise 6 (yX7_neverRise.name == "<init>") 117 117 (some .long) (zRT 117 zRF (some (.long q.1)) q.2) J) : ∀ (f : Nat) (a2 : Int32) (a3 : Int64) (a5 : Int32) (h : zHp), s_X7_neverRise_60_L5 f a2 a3 a5 h = some q → J 5 [(0, .ref 59), (1, .ref 60), (2, .int a2), (3, .long a3), (5, .int a5)] [] 117 zRF h := by
  intro f
  induction f with
  | zero => intro _ _ _ h e; exact absurd e (fun z => by cases z)
  | succ f ih =>
    intro a2 a3 a5 h e
    rw [s_X7_neverRise_60_L5] at e
    refine zv_iload X dX7_neverRise_5 rfl ?_
    refine zv_bipush (v := (6 : Int32)) X dX7_neverRise_7 zbp_6 ?_
    refine zv_icmp_ge (tgt := 42) X dX7_neverRise_9 (by decide) (fun c1 => ?_) (fun c1 => ?_)
    · replace e := zit e c1
      refine zv_lload_n X dX7_neverRise_42 rfl rfl ?_
      exact zv_retL X e rfl dX7_neverRise_43
    · replace e := zif e c1
      refine zv_aload_n X dX7_neverRise_12 rfl rfl ?_
      refine zv_iload X dX7_neverRise_13 rfl ?_
      refine zb e (fun v2 gv2 e => ?_)
      refine zv_iald X zk_60 zl_60 zb_60 dX7_neverRise_15 gv2 ?_
      refine zv_bipush (v := (12 : Int32)) X dX7_neverRise_16 zbp_12 ?_
      refine zv_icmp_ne (tgt := 36) X dX7_neverRise_18 (by decide) (fun c3 => ?_) (fun c3 => ?_)
      · replace e := zif e c3
        exact k_X7_neverRise_60_L36 q hd X ih _ _ _ _ e
      · replace e := zit e c3
        refine zv_lload_n X dX7_neverRise_21 rfl rfl ?_
        refine zv_aload_n X dX7_neverRise_22 rfl rfl ?_
        refine zv_getR X zf_RX7_18 znt_a zk_59 zb_59 zr_59_2 dX7_neverRise_23 ?_
        refine zv_iload X dX7_neverRise_26 rfl ?_
        refine zv_bipush (v := (12 : Int32)) X dX7_neverRise_28 zbp_12 ?_
        refine zv_imul X dX7_neverRise_30 ?_
        refine zv_iload_n X dX7_neverRise_31 rfl rfl ?_
        refine zv_iadd X dX7_neverRise_32 ?_
        refine zb e (fun v4 gv4 e => ?_)
        refine zv_lald X zk_62 zl_62 zb_62 dX7_neverRise_33 gv4 ?_
        refine zv_ladd X dX7_neverRise_34 ?_
        refine zb e (fun v5 gv5 e => ?_)
        refine zv_nmJ X gv5 ?_
        refine zv_lstore_n (i := 3) (lv' := [(3, .long v5), (0, .ref 59), (1, .ref 60), (2, .int a2), (5, .int a5)]) X dX7_neverRise_35 rfl (Nat.le_of_ble_eq_true rfl) rfl ?_
        exact zv_pick X [1, 2, 3, 0, 4] rfl (k_X7_neverRise_60_L36 q hd X ih _ _ _ _ e)
set_option maxRecDepth 100000 in
set_option maxHeartbeats 4000000 in
theorem k_X7_neverRise_60 {l : Launch} {D : va_G} {cy : Nat → ClassId} {S0 d : Nat} (hd : 0 ≤ d) {a2 : Int32} {h : zHp} {q : (Int64 × zHp)} (e : s_X7_neverRise_60 a2 h = some q) : zCT l D cy S0 d yX7_neverRise cX7_neverRise 6 (some .long) [.ref 59, .ref 60, .int a2] 117 zRF h (some (.long q.1)) 117 zRF q.2 := by
  unfold s_X7_neverRise_60 at e
  refine zCT_of RX7 rfl zm_X7_neverRise (Nat.le_refl _) (Nat.le_of_ble_eq_true rfl) (fun J X => ?_)
  show J 0 [(0, .ref 59), (1, .ref 60), (2, .int a2)] [] 117 zRF h
  refine zv_lconst (v := (0 : Int64)) X dX7_neverRise_0 rfl ?_
  refine zv_lstore_n (i := 3) (lv' := [(3, .long (0 : Int64)), (0, .ref 59), (1, .ref 60), (2, .int a2)]) X dX7_neverRise_1 rfl (Nat.le_of_ble_eq_true rfl) rfl ?_
  refine zv_iconst (v := (0 : Int32)) X dX7_neverRise_2 zic_0 ?_
  refine zv_istore (i := 5) (lv' := [(5, .int (0 : Int32)), (3, .long (0 : Int64)), (0, .ref 59), (1, .ref 60), (2, .int a2)]) X dX7_neverRise_3 (Nat.le_of_ble_eq_true rfl) rfl ?_
  exact zv_pick X [2, 3, 4, 1, 0] rfl (k_X7_neverRise_60_L5 q hd X _ _ _ _ _ e)
-- X7_effectBy_60
def s_X7_effectBy_60_L58 (k10 : Int32 → Int64 → Int32 → zHp → Option (Int64 × zHp)) (a2 : Int32) (a3 : Int64) (a5 : Int32) (h : zHp) : Option (Int64 × zHp) :=
  k10 a2 a3 (a5 + (1 : Int32)) h
def s_X7_effectBy_60_L10 : Nat → Int32 → Int64 → Int32 → zHp → Option (Int64 × zHp)
  | 0, _, _, _, _ => none
  | f + 1, a2, a3, a5, h =>
  if (6 : Int32) ≤ a5 then
    some (a3, h)
  else
    (zri h 60 6 a5).bind fun v2 =>
    (s_X7_isStarted v2 h).bind fun q3 =>
    if q3.1 = 0 then
      s_X7_effectBy_60_L58 (s_X7_effectBy_60_L10 f) a2 a3 a5 q3.2
    else
      (zrj q3.2 62 72 ((a5 * (12 : Int32)) + v2)).bind fun v5 =>
      (s_X7_neverRise_60 v2 q3.2).bind fun q6 =>
      (some (a3 + ((a2.toInt64 * v5) - q6.1))).bind fun v7 =>
      s_X7_effectBy_60_L58 (s_X7_effectBy_60_L10 f) a2 v7 a5 q6.2
def s_X7_effectBy_60  (h : zHp) : Option (Int64 × zHp) :=
  (s_X7_neverSize h).bind fun q1 =>
  s_X7_effectBy_60_L10 zFU q1.1 (0 : Int64) (0 : Int32) q1.2
set_option maxRecDepth 100000 in
set_option maxHeartbeats 4000000 in
theorem k_X7_effectBy_60_L58 {l : Launch} {D : va_G} {cy : Nat → ClassId} {S0 d : Nat} {J : zJ} (q : (Int64 × zHp)) (hd : 1 ≤ d) (X : zOK l D cy S0 d RX7 cX7_effectBy 7 (yX7_effectBy.name == "<init>") 117 117 (some .long) (zRT 117 zRF (some (.long q.1)) q.2) J) {k10 : Int32 → Int64 → Int32 → zHp → Option (Int64 × zHp)} (hk10 : ∀ (a2 : Int32) (a3 : Int64) (a5 : Int32) (h : zHp), k10 a2 a3 a5 h = some q → J 10 [(0, .ref 59), (1, .ref 60), (2, .int a2), (3, .long a3), (5, .int a5)] [] 117 zRF h) : ∀ (a2 : Int32) (a3 : Int64) (a5 : Int32) (h : zHp), s_X7_effectBy_60_L58 k10 a2 a3 a5 h = some q → J 58 [(0, .ref 59), (1, .ref 60), (2, .int a2), (3, .long a3), (5, .int a5)] [] 117 zRF h := by
  intro a2 a3 a5 h e
  unfold s_X7_effectBy_60_L58 at e
  refine zv_iinc (k := 4) (v := a5 + (1 : Int32)) (lv' := [(5, .int (a5 + (1 : Int32))), (0, .ref 59), (1, .ref 60), (2, .int a2), (3, .long a3)]) X dX7_effectBy_58 rfl rfl (Nat.le_of_ble_eq_true rfl) rfl ?_
  refine zv_goto (tgt := 10) X dX7_effectBy_61 (by decide) ?_
  exact zv_pick X [1, 2, 3, 4, 0] rfl (hk10 _ _ _ _ e)
set_option maxRecDepth 100000 in
set_option maxHeartbeats 4000000 in
theorem k_X7_effectBy_60_L10 {l : Launch} {D : va_G} {cy : Nat → ClassId} {S0 d : Nat} {J : zJ} (q : (Int64 × zHp)) (hd : 1 ≤ d) (X : zOK l D cy S0 d RX7 cX7_effectBy 7 (yX7_effectBy.name == "<init>") 117 117 (some .long) (zRT 117 zRF (some (.long q.1)) q.2) J) : ∀ (f : Nat) (a2 : Int32) (a3 : Int64) (a5 : Int32) (h : zHp), s_X7_effectBy_60_L10 f a2 a3 a5 h = some q → J 10 [(0, .ref 59), (1, .ref 60), (2, .int a2), (3, .long a3), (5, .int a5)] [] 117 zRF h := by
  intro f
  induction f with
  | zero => intro _ _ _ h e; exact absurd e (fun z => by cases z)
  | succ f ih =>
    intro a2 a3 a5 h e
    rw [s_X7_effectBy_60_L10] at e
    refine zv_iload X dX7_effectBy_10 rfl ?_
    refine zv_bipush (v := (6 : Int32)) X dX7_effectBy_12 zbp_6 ?_
    refine zv_icmp_ge (tgt := 64) X dX7_effectBy_14 (by decide) (fun c1 => ?_) (fun c1 => ?_)
    · replace e := zit e c1
      refine zv_lload_n X dX7_effectBy_64 rfl rfl ?_
      exact zv_retL X e rfl dX7_effectBy_65
    · replace e := zif e c1
      refine zv_aload_n X dX7_effectBy_17 rfl rfl ?_
      refine zv_iload X dX7_effectBy_18 rfl ?_
      refine zb e (fun v2 gv2 e => ?_)
      refine zv_iald X zk_60 zl_60 zb_60 dX7_effectBy_20 gv2 ?_
      refine zv_istore (i := 6) (lv' := [(6, .int v2), (0, .ref 59), (1, .ref 60), (2, .int a2), (3, .long a3), (5, .int a5)]) X dX7_effectBy_21 (Nat.le_of_ble_eq_true rfl) rfl ?_
      refine zv_iload X dX7_effectBy_23 rfl ?_
      refine zb e (fun q3 gq3 e => ?_)
      refine zv_callS (stk := [.int v2]) (as := [.int v2]) (st := []) X zl_RX7_65 zm_X7_isStarted (k_X7_isStarted (d := d - 1) (by omega) gq3) (by omega) rfl (Nat.le_of_ble_eq_true rfl) (Nat.le_refl _) rfl dX7_effectBy_25 ?_
      show J 28 [(6, .int v2), (0, .ref 59), (1, .ref 60), (2, .int a2), (3, .long a3), (5, .int a5)] [.int q3.1] 117 zRF q3.2
      refine zv_if_eq (tgt := 58) X dX7_effectBy_28 (by decide) (fun c4 => ?_) (fun c4 => ?_)
      · replace e := zit e c4
        exact zv_pick X [1, 2, 3, 4, 5] rfl (k_X7_effectBy_60_L58 q hd X ih _ _ _ _ e)
      · replace e := zif e c4
        refine zv_lload_n X dX7_effectBy_31 rfl rfl ?_
        refine zv_iload_n X dX7_effectBy_32 rfl rfl ?_
        refine zv_i2l X dX7_effectBy_33 ?_
        refine zv_aload_n X dX7_effectBy_34 rfl rfl ?_
        refine zv_getR X zf_RX7_18 znt_a zk_59 zb_59 zr_59_2 dX7_effectBy_35 ?_
        refine zv_iload X dX7_effectBy_38 rfl ?_
        refine zv_bipush (v := (12 : Int32)) X dX7_effectBy_40 zbp_12 ?_
        refine zv_imul X dX7_effectBy_42 ?_
        refine zv_iload X dX7_effectBy_43 rfl ?_
        refine zv_iadd X dX7_effectBy_45 ?_
        refine zb e (fun v5 gv5 e => ?_)
        refine zv_lald X zk_62 zl_62 zb_62 dX7_effectBy_46 gv5 ?_
        refine zv_lmul X dX7_effectBy_47 ?_
        refine zv_aload_n X dX7_effectBy_48 rfl rfl ?_
        refine zv_aload_n X dX7_effectBy_49 rfl rfl ?_
        refine zv_iload X dX7_effectBy_50 rfl ?_
        refine zb e (fun q6 gq6 e => ?_)
        refine zv_callV (stk := [.int v2, .ref 60, .ref 59, .long (a2.toInt64 * v5), .long a3]) (as := [.ref 60, .int v2]) (st := [.long (a2.toInt64 * v5), .long a3]) (k := 59) X zl_RX7_69 zm_X7_neverRise (k_X7_neverRise_60 (d := d - 1) (by omega) gq6) (by omega) zb_59 (by rw [zk_59]; rfl) rfl rfl (Nat.le_of_ble_eq_true rfl) (Nat.le_refl _) rfl dX7_effectBy_52 ?_
        show J 55 [(6, .int v2), (0, .ref 59), (1, .ref 60), (2, .int a2), (3, .long a3), (5, .int a5)] [.long q6.1, .long (a2.toInt64 * v5), .long a3] 117 zRF q6.2
        refine zv_lsub X dX7_effectBy_55 ?_
        refine zv_ladd X dX7_effectBy_56 ?_
        refine zb e (fun v7 gv7 e => ?_)
        refine zv_nmJ X gv7 ?_
        refine zv_lstore_n (i := 3) (lv' := [(3, .long v7), (6, .int v2), (0, .ref 59), (1, .ref 60), (2, .int a2), (5, .int a5)]) X dX7_effectBy_57 rfl (Nat.le_of_ble_eq_true rfl) rfl ?_
        exact zv_pick X [2, 3, 4, 0, 5] rfl (k_X7_effectBy_60_L58 q hd X ih _ _ _ _ e)
set_option maxRecDepth 100000 in
set_option maxHeartbeats 4000000 in
theorem k_X7_effectBy_60 {l : Launch} {D : va_G} {cy : Nat → ClassId} {S0 d : Nat} (hd : 1 ≤ d) {h : zHp} {q : (Int64 × zHp)} (e : s_X7_effectBy_60  h = some q) : zCT l D cy S0 d yX7_effectBy cX7_effectBy 7 (some .long) [.ref 59, .ref 60] 117 zRF h (some (.long q.1)) 117 zRF q.2 := by
  unfold s_X7_effectBy_60 at e
  refine zCT_of RX7 rfl zm_X7_effectBy (Nat.le_refl _) (Nat.le_of_ble_eq_true rfl) (fun J X => ?_)
  show J 0 [(0, .ref 59), (1, .ref 60)] [] 117 zRF h
  refine zv_aload_n X dX7_effectBy_0 rfl rfl ?_
  refine zb e (fun q1 gq1 e => ?_)
  refine zv_callV (stk := [.ref 59]) (as := []) (st := []) (k := 59) X zl_RX7_45 zm_X7_neverSize (k_X7_neverSize (d := d - 1) (by omega) gq1) (by omega) zb_59 (by rw [zk_59]; rfl) rfl rfl (Nat.le_of_ble_eq_true rfl) (Nat.le_refl _) rfl dX7_effectBy_1 ?_
  show J 4 [(0, .ref 59), (1, .ref 60)] [.int q1.1] 117 zRF q1.2
  refine zv_istore_n (i := 2) (lv' := [(2, .int q1.1), (0, .ref 59), (1, .ref 60)]) X dX7_effectBy_4 rfl (Nat.le_of_ble_eq_true rfl) rfl ?_
  refine zv_lconst (v := (0 : Int64)) X dX7_effectBy_5 rfl ?_
  refine zv_lstore_n (i := 3) (lv' := [(3, .long (0 : Int64)), (2, .int q1.1), (0, .ref 59), (1, .ref 60)]) X dX7_effectBy_6 rfl (Nat.le_of_ble_eq_true rfl) rfl ?_
  refine zv_iconst (v := (0 : Int32)) X dX7_effectBy_7 zic_0 ?_
  refine zv_istore (i := 5) (lv' := [(5, .int (0 : Int32)), (3, .long (0 : Int64)), (2, .int q1.1), (0, .ref 59), (1, .ref 60)]) X dX7_effectBy_8 (Nat.le_of_ble_eq_true rfl) rfl ?_
  exact zv_pick X [3, 4, 2, 1, 0] rfl (k_X7_effectBy_60_L10 q hd X _ _ _ _ _ e)
-- X2_put_65
def s_X2_put_65_L49  (h : zHp) : Option zHp :=
  some h
def s_X2_put_65 (a1 : Int64) (a3 : Int64) (h : zHp) : Option zHp :=
  (zpl h 65 0 (0 : Int64)).bind fun h1 =>
  (zpl h1 65 1 (1 : Int64)).bind fun h2 =>
  (s_J9_abs_067f4 a1 h2).bind fun q3 =>
  (s_X2_commonDivisor q3.1 a3 q3.2).bind fun q4 =>
  if a3 ≤ (0 : Int64) then
    s_X2_put_65_L49 q4.2
  else
    if q4.1 ≤ (0 : Int64) then
      s_X2_put_65_L49 q4.2
    else
      (zldiv a1 q4.1).bind fun v7 =>
      (zpl q4.2 65 0 v7).bind fun h8 =>
      (zldiv a3 q4.1).bind fun v9 =>
      (zpl h8 65 1 v9).bind fun h10 =>
      s_X2_put_65_L49 h10
set_option maxRecDepth 100000 in
set_option maxHeartbeats 4000000 in
theorem k_X2_put_65_L49 {l : Launch} {D : va_G} {cy : Nat → ClassId} {S0 d : Nat} {J : zJ} (q : zHp) (hd : 1 ≤ d) (X : zOK l D cy S0 d RX2 cX2_put 7 (yX2_put.name == "<init>") 117 117 none (zRT 117 zRF none q) J) : ∀  (h : zHp), s_X2_put_65_L49  h = some q → J 49 [] [] 117 zRF h := by
  intro  h e
  unfold s_X2_put_65_L49 at e
  exact zv_retV X e rfl dX2_put_49
set_option maxRecDepth 100000 in
set_option maxHeartbeats 4000000 in
theorem k_X2_put_65 {l : Launch} {D : va_G} {cy : Nat → ClassId} {S0 d : Nat} (hd : 1 ≤ d) {a1 : Int64} {a3 : Int64} {h : zHp} {q : zHp} (e : s_X2_put_65 a1 a3 h = some q) : zCT l D cy S0 d yX2_put cX2_put 7 none [.ref 65, .long a1, .long a3] 117 zRF h none 117 zRF q := by
  unfold s_X2_put_65 at e
  refine zCT_of RX2 rfl zm_X2_put (Nat.le_refl _) (Nat.le_of_ble_eq_true rfl) (fun J X => ?_)
  show J 0 [(0, .ref 65), (1, .long a1), (3, .long a3)] [] 117 zRF h
  refine zv_aload_n X dX2_put_0 rfl rfl ?_
  refine zv_lconst (v := (0 : Int64)) X dX2_put_1 rfl ?_
  refine zb e (fun h1 gh1 e => ?_)
  refine zv_putL' X zf_RX2_7 zk_65 zb_65 dX2_put_2 gh1 ?_
  refine zv_aload_n X dX2_put_5 rfl rfl ?_
  refine zv_lconst (v := (1 : Int64)) X dX2_put_6 rfl ?_
  refine zb e (fun h2 gh2 e => ?_)
  refine zv_putL' X zf_RX2_13 zk_65 zb_65 dX2_put_7 gh2 ?_
  refine zv_lload_n X dX2_put_10 rfl rfl ?_
  refine zb e (fun q3 gq3 e => ?_)
  refine zv_callS (stk := [.long a1]) (as := [.long a1]) (st := []) X zl_RX2_16 zm_J9_abs_067f4 (k_J9_abs_067f4 (d := d - 1) (by omega) gq3) (by omega) rfl (Nat.le_of_ble_eq_true rfl) (Nat.le_refl _) rfl dX2_put_11 ?_
  show J 14 [(0, .ref 65), (1, .long a1), (3, .long a3)] [.long q3.1] 117 zRF q3.2
  refine zv_lload_n X dX2_put_14 rfl rfl ?_
  refine zb e (fun q4 gq4 e => ?_)
  refine zv_callS (stk := [.long a3, .long q3.1]) (as := [.long q3.1, .long a3]) (st := []) X zl_RX2_22 zm_X2_commonDivisor (k_X2_commonDivisor (d := d - 1) (by omega) gq4) (by omega) rfl (Nat.le_of_ble_eq_true rfl) (Nat.le_refl _) rfl dX2_put_15 ?_
  show J 18 [(0, .ref 65), (1, .long a1), (3, .long a3)] [.long q4.1] 117 zRF q4.2
  refine zv_lstore (i := 5) (lv' := [(5, .long q4.1), (0, .ref 65), (1, .long a1), (3, .long a3)]) X dX2_put_18 (Nat.le_of_ble_eq_true rfl) rfl ?_
  refine zv_lload_n X dX2_put_20 rfl rfl ?_
  refine zv_lconst (v := (0 : Int64)) X dX2_put_21 rfl ?_
  refine zv_lcmp_le (tgt := 49) (pc2 := 26) X dX2_put_22 rfl dX2_put_23 (by decide) rfl (fun c5 => ?_) (fun c5 => ?_)
  · replace e := zit e c5
    exact zv_pick X [] rfl (k_X2_put_65_L49 q hd X  _ e)
  · replace e := zif e c5
    refine zv_lload X dX2_put_26 rfl ?_
    refine zv_lconst (v := (0 : Int64)) X dX2_put_28 rfl ?_
    refine zv_lcmp_le (tgt := 49) (pc2 := 33) X dX2_put_29 rfl dX2_put_30 (by decide) rfl (fun c6 => ?_) (fun c6 => ?_)
    · replace e := zit e c6
      exact zv_pick X [] rfl (k_X2_put_65_L49 q hd X  _ e)
    · replace e := zif e c6
      refine zv_aload_n X dX2_put_33 rfl rfl ?_
      refine zv_lload_n X dX2_put_34 rfl rfl ?_
      refine zv_lload X dX2_put_35 rfl ?_
      refine zb e (fun v7 gv7 e => ?_)
      refine zv_ldiv X dX2_put_37 gv7 ?_
      refine zb e (fun h8 gh8 e => ?_)
      refine zv_putL' X zf_RX2_7 zk_65 zb_65 dX2_put_38 gh8 ?_
      refine zv_aload_n X dX2_put_41 rfl rfl ?_
      refine zv_lload_n X dX2_put_42 rfl rfl ?_
      refine zv_lload X dX2_put_43 rfl ?_
      refine zb e (fun v9 gv9 e => ?_)
      refine zv_ldiv X dX2_put_45 gv9 ?_
      refine zb e (fun h10 gh10 e => ?_)
      refine zv_putL' X zf_RX2_13 zk_65 zb_65 dX2_put_46 gh10 ?_
      exact zv_pick X [] rfl (k_X2_put_65_L49 q hd X  _ e)
-- X7_trueEffect
def s_X7_trueEffect  (h : zHp) : Option zHp :=
  (s_X7_fillRises h).bind fun q1 =>
  (s_X7_effectBy_60 q1).bind fun q2 =>
  (s_X7_neverSize q2.2).bind fun q3 =>
  (s_X7_startedSize q3.2).bind fun q4 =>
  (s_X2_put_65 q2.1 (((27720 : Int64) * q3.1.toInt64) * q4.1.toInt64) q4.2).bind fun q5 =>
  some q5
set_option maxRecDepth 100000 in
set_option maxHeartbeats 4000000 in
theorem k_X7_trueEffect {l : Launch} {D : va_G} {cy : Nat → ClassId} {S0 d : Nat} (hd : 2 ≤ d) {h : zHp} {q : zHp} (e : s_X7_trueEffect  h = some q) : zCT l D cy S0 d yX7_trueEffect cX7_trueEffect 1 (some (.object "DoorStars$Fraction")) [.ref 59] 117 zRF h (some (.ref 65)) 117 zRF q := by
  unfold s_X7_trueEffect at e
  refine zCT_of RX7 rfl zm_X7_trueEffect (Nat.le_refl _) (Nat.le_of_ble_eq_true rfl) (fun J X => ?_)
  show J 0 [(0, .ref 59)] [] 117 zRF h
  refine zv_aload_n X dX7_trueEffect_0 rfl rfl ?_
  refine zb e (fun q1 gq1 e => ?_)
  refine zv_callV (stk := [.ref 59]) (as := []) (st := []) (k := 59) X zl_RX7_48 zm_X7_fillRises (k_X7_fillRises (d := d - 1) (by omega) gq1) (by omega) zb_59 (by rw [zk_59]; rfl) rfl rfl (Nat.le_of_ble_eq_true rfl) (Nat.le_refl _) rfl dX7_trueEffect_1 ?_
  show J 4 [(0, .ref 59)] [] 117 zRF q1
  refine zv_aload_n X dX7_trueEffect_4 rfl rfl ?_
  refine zv_getR X zf_RX7_31 znt_o zk_59 zb_59 zr_59_5 dX7_trueEffect_5 ?_
  refine zv_aload_n X dX7_trueEffect_8 rfl rfl ?_
  refine zv_aload_n X dX7_trueEffect_9 rfl rfl ?_
  refine zv_getR X zf_RX7_9 znt_a zk_59 zb_59 zr_59_0 dX7_trueEffect_10 ?_
  refine zb e (fun q2 gq2 e => ?_)
  refine zv_callV (stk := [.ref 60, .ref 59, .ref 65]) (as := [.ref 60]) (st := [.ref 65]) (k := 59) X zl_RX7_51 zm_X7_effectBy (k_X7_effectBy_60 (d := d - 1) (by omega) gq2) (by omega) zb_59 (by rw [zk_59]; rfl) rfl rfl (Nat.le_of_ble_eq_true rfl) (Nat.le_refl _) rfl dX7_trueEffect_13 ?_
  show J 16 [(0, .ref 59)] [.long q2.1, .ref 65] 117 zRF q2.2
  refine zv_ldc2 (v := (27720 : Int64)) X zc_RX7_55 dX7_trueEffect_16 ?_
  refine zv_aload_n X dX7_trueEffect_19 rfl rfl ?_
  refine zb e (fun q3 gq3 e => ?_)
  refine zv_callV (stk := [.ref 59, .long (27720 : Int64), .long q2.1, .ref 65]) (as := []) (st := [.long (27720 : Int64), .long q2.1, .ref 65]) (k := 59) X zl_RX7_45 zm_X7_neverSize (k_X7_neverSize (d := d - 1) (by omega) gq3) (by omega) zb_59 (by rw [zk_59]; rfl) rfl rfl (Nat.le_of_ble_eq_true rfl) (Nat.le_refl _) rfl dX7_trueEffect_20 ?_
  show J 23 [(0, .ref 59)] [.int q3.1, .long (27720 : Int64), .long q2.1, .ref 65] 117 zRF q3.2
  refine zv_i2l X dX7_trueEffect_23 ?_
  refine zv_lmul X dX7_trueEffect_24 ?_
  refine zv_aload_n X dX7_trueEffect_25 rfl rfl ?_
  refine zb e (fun q4 gq4 e => ?_)
  refine zv_callV (stk := [.ref 59, .long ((27720 : Int64) * q3.1.toInt64), .long q2.1, .ref 65]) (as := []) (st := [.long ((27720 : Int64) * q3.1.toInt64), .long q2.1, .ref 65]) (k := 59) X zl_RX7_41 zm_X7_startedSize (k_X7_startedSize (d := d - 1) (by omega) gq4) (by omega) zb_59 (by rw [zk_59]; rfl) rfl rfl (Nat.le_of_ble_eq_true rfl) (Nat.le_refl _) rfl dX7_trueEffect_26 ?_
  show J 29 [(0, .ref 59)] [.int q4.1, .long ((27720 : Int64) * q3.1.toInt64), .long q2.1, .ref 65] 117 zRF q4.2
  refine zv_i2l X dX7_trueEffect_29 ?_
  refine zv_lmul X dX7_trueEffect_30 ?_
  refine zb e (fun q5 gq5 e => ?_)
  refine zv_callV (stk := [.long (((27720 : Int64) * q3.1.toInt64) * q4.1.toInt64), .long q2.1, .ref 65]) (as := [.long q2.1, .long (((27720 : Int64) * q3.1.toInt64) * q4.1.toInt64)]) (st := []) (k := 65) X zl_RX7_57 zm_X2_put (k_X2_put_65 (d := d - 1) (by omega) gq5) (by omega) zb_65 (by rw [zk_65]; rfl) rfl rfl (Nat.le_of_ble_eq_true rfl) (Nat.le_refl _) rfl dX7_trueEffect_31 ?_
  show J 34 [(0, .ref 59)] [] 117 zRF q5
  refine zv_aload_n X dX7_trueEffect_34 rfl rfl ?_
  refine zv_getR X zf_RX7_31 znt_o zk_59 zb_59 zr_59_5 dX7_trueEffect_35 ?_
  exact zv_retR X e ⟨_, rfl⟩ dX7_trueEffect_38
-- X2_piece_65
def s_X2_piece_65_L15 (b0 : Int64) (h : zHp) : Option (Int64 × zHp) :=
  some (b0, h)
def s_X2_piece_65 (a1 : Int32) (h : zHp) : Option (Int64 × zHp) :=
  if a1 = 0 then
    s_X2_piece_65_L15 (h.2 65 0) h
  else
    s_X2_piece_65_L15 (h.2 65 1) h
set_option maxRecDepth 100000 in
set_option maxHeartbeats 4000000 in
theorem k_X2_piece_65_L15 {l : Launch} {D : va_G} {cy : Nat → ClassId} {S0 d : Nat} {J : zJ} (q : (Int64 × zHp)) (hd : 0 ≤ d) (X : zOK l D cy S0 d RX2 cX2_piece 2 (yX2_piece.name == "<init>") 117 117 (some .long) (zRT 117 zRF (some (.long q.1)) q.2) J) : ∀ (b0 : Int64) (h : zHp), s_X2_piece_65_L15 b0 h = some q → J 15 [] [.long b0] 117 zRF h := by
  intro b0 h e
  unfold s_X2_piece_65_L15 at e
  exact zv_retL X e rfl dX2_piece_15
set_option maxRecDepth 100000 in
set_option maxHeartbeats 4000000 in
theorem k_X2_piece_65 {l : Launch} {D : va_G} {cy : Nat → ClassId} {S0 d : Nat} (hd : 0 ≤ d) {a1 : Int32} {h : zHp} {q : (Int64 × zHp)} (e : s_X2_piece_65 a1 h = some q) : zCT l D cy S0 d yX2_piece cX2_piece 2 (some .long) [.ref 65, .int a1] 117 zRF h (some (.long q.1)) 117 zRF q.2 := by
  unfold s_X2_piece_65 at e
  refine zCT_of RX2 rfl zm_X2_piece (Nat.le_refl _) (Nat.le_of_ble_eq_true rfl) (fun J X => ?_)
  show J 0 [(0, .ref 65), (1, .int a1)] [] 117 zRF h
  refine zv_iload_n X dX2_piece_0 rfl rfl ?_
  refine zv_if_ne (tgt := 11) X dX2_piece_1 (by decide) (fun c1 => ?_) (fun c1 => ?_)
  · replace e := zif e c1
    refine zv_aload_n X dX2_piece_11 rfl rfl ?_
    refine zv_getL X zf_RX2_13 zk_65 zb_65 dX2_piece_12 ?_
    exact zv_pick X [] rfl (k_X2_piece_65_L15 q hd X _ _ e)
  · replace e := zit e c1
    refine zv_aload_n X dX2_piece_4 rfl rfl ?_
    refine zv_getL X zf_RX2_7 zk_65 zb_65 dX2_piece_5 ?_
    refine zv_goto (tgt := 15) X dX2_piece_8 (by decide) ?_
    exact zv_pick X [] rfl (k_X2_piece_65_L15 q hd X _ _ e)
-- X9_effect
def s_X9_effect_L9  (h : zHp) : Option (Int64 × zHp) :=
  (s_X9_refusedLong (-2 : Int32) h).bind fun q1 =>
  some (q1.1, q1.2)
def s_X9_effect (a1 : Int32) (h : zHp) : Option (Int64 × zHp) :=
  if a1 < 0 then
    s_X9_effect_L9 h
  else
    if a1 ≤ (1 : Int32) then
      (s_X7_hasEffect h).bind fun q3 =>
      if q3.1 = 0 then
        (s_X9_refusedLong (-3 : Int32) q3.2).bind fun q7 =>
        some (q7.1, q7.2)
      else
        (s_X7_trueEffect q3.2).bind fun q5 =>
        (s_X2_piece_65 a1 q5).bind fun q6 =>
        some (q6.1, q6.2)
    else
      s_X9_effect_L9 h
set_option maxRecDepth 100000 in
set_option maxHeartbeats 4000000 in
theorem k_X9_effect_L9 {l : Launch} {D : va_G} {cy : Nat → ClassId} {S0 d : Nat} {J : zJ} (q : (Int64 × zHp)) (hd : 3 ≤ d) (X : zOK l D cy S0 d RX9 cX9_effect 2 (yX9_effect.name == "<init>") 117 117 (some .long) (zRT 117 zRF (some (.long q.1)) q.2) J) : ∀  (h : zHp), s_X9_effect_L9  h = some q → J 9 [(0, .ref 0)] [] 117 zRF h := by
  intro  h e
  unfold s_X9_effect_L9 at e
  refine zv_aload_n X dX9_effect_9 rfl rfl ?_
  refine zv_bipush (v := (-2 : Int32)) X dX9_effect_10 zbp_m2 ?_
  refine zb e (fun q1 gq1 e => ?_)
  refine zv_callV (stk := [.int (-2 : Int32), .ref 0]) (as := [.int (-2 : Int32)]) (st := []) (k := 0) X zl_RX9_224 zm_X9_refusedLong (k_X9_refusedLong (d := d - 1) (by omega) gq1) (by omega) zb_0 (by rw [zk_0]; rfl) rfl rfl (Nat.le_of_ble_eq_true rfl) (Nat.le_refl _) rfl dX9_effect_12 ?_
  show J 15 [(0, .ref 0)] [.long q1.1] 117 zRF q1.2
  exact zv_retL X e rfl dX9_effect_15
set_option maxRecDepth 100000 in
set_option maxHeartbeats 4000000 in
theorem k_X9_effect {l : Launch} {D : va_G} {cy : Nat → ClassId} {S0 d : Nat} (hd : 3 ≤ d) {a1 : Int32} {h : zHp} {q : (Int64 × zHp)} (e : s_X9_effect a1 h = some q) : zCT l D cy S0 d yX9_effect cX9_effect 2 (some .long) [.ref 0, .int a1] 117 zRF h (some (.long q.1)) 117 zRF q.2 := by
  unfold s_X9_effect at e
  refine zCT_of RX9 rfl zm_X9_effect (Nat.le_refl _) (Nat.le_of_ble_eq_true rfl) (fun J X => ?_)
  show J 0 [(0, .ref 0), (1, .int a1)] [] 117 zRF h
  refine zv_iload_n X dX9_effect_0 rfl rfl ?_
  refine zv_if_lt (tgt := 9) X dX9_effect_1 (by decide) (fun c1 => ?_) (fun c1 => ?_)
  · replace e := zit e c1
    exact zv_pick X [0] rfl (k_X9_effect_L9 q hd X  _ e)
  · replace e := zif e c1
    refine zv_iload_n X dX9_effect_4 rfl rfl ?_
    refine zv_iconst (v := (1 : Int32)) X dX9_effect_5 zic_1 ?_
    refine zv_icmp_le (tgt := 16) X dX9_effect_6 (by decide) (fun c2 => ?_) (fun c2 => ?_)
    · replace e := zit e c2
      refine zv_aload_n X dX9_effect_16 rfl rfl ?_
      refine zv_getR X zf_RX9_84 znt_o zk_0 zb_0 zr_0_12 dX9_effect_17 ?_
      refine zb e (fun q3 gq3 e => ?_)
      refine zv_callV (stk := [.ref 59]) (as := []) (st := []) (k := 59) X zl_RX9_276 zm_X7_hasEffect (k_X7_hasEffect (d := d - 1) (by omega) gq3) (by omega) zb_59 (by rw [zk_59]; rfl) rfl rfl (Nat.le_of_ble_eq_true rfl) (Nat.le_refl _) rfl dX9_effect_20 ?_
      show J 23 [(0, .ref 0), (1, .int a1)] [.int q3.1] 117 zRF q3.2
      refine zv_if_ne (tgt := 33) X dX9_effect_23 (by decide) (fun c4 => ?_) (fun c4 => ?_)
      · replace e := zif e c4
        refine zv_aload_n X dX9_effect_33 rfl rfl ?_
        refine zv_getR X zf_RX9_84 znt_o zk_0 zb_0 zr_0_12 dX9_effect_34 ?_
        refine zb e (fun q5 gq5 e => ?_)
        refine zv_callV (stk := [.ref 59]) (as := []) (st := []) (k := 59) X zl_RX9_279 zm_X7_trueEffect (k_X7_trueEffect (d := d - 1) (by omega) gq5) (by omega) zb_59 (by rw [zk_59]; rfl) rfl rfl (Nat.le_of_ble_eq_true rfl) (Nat.le_refl _) rfl dX9_effect_37 ?_
        show J 40 [(0, .ref 0), (1, .int a1)] [.ref 65] 117 zRF q5
        refine zv_iload_n X dX9_effect_40 rfl rfl ?_
        refine zb e (fun q6 gq6 e => ?_)
        refine zv_callV (stk := [.int a1, .ref 65]) (as := [.int a1]) (st := []) (k := 65) X zl_RX9_238 zm_X2_piece (k_X2_piece_65 (d := d - 1) (by omega) gq6) (by omega) zb_65 (by rw [zk_65]; rfl) rfl rfl (Nat.le_of_ble_eq_true rfl) (Nat.le_refl _) rfl dX9_effect_41 ?_
        show J 44 [(0, .ref 0), (1, .int a1)] [.long q6.1] 117 zRF q6.2
        exact zv_retL X e rfl dX9_effect_44
      · replace e := zit e c4
        refine zv_aload_n X dX9_effect_26 rfl rfl ?_
        refine zv_bipush (v := (-3 : Int32)) X dX9_effect_27 zbp_m3 ?_
        refine zb e (fun q7 gq7 e => ?_)
        refine zv_callV (stk := [.int (-3 : Int32), .ref 0]) (as := [.int (-3 : Int32)]) (st := []) (k := 0) X zl_RX9_224 zm_X9_refusedLong (k_X9_refusedLong (d := d - 1) (by omega) gq7) (by omega) zb_0 (by rw [zk_0]; rfl) rfl rfl (Nat.le_of_ble_eq_true rfl) (Nat.le_refl _) rfl dX9_effect_29 ?_
        show J 32 [(0, .ref 0), (1, .int a1)] [.long q7.1] 117 zRF q7.2
        exact zv_retL X e rfl dX9_effect_32
    · replace e := zif e c2
      exact zv_pick X [0] rfl (k_X9_effect_L9 q hd X  _ e)

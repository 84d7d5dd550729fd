-- X10_stands
def s_X10_stands_L38 (b0 : Int32) (h : zHp) : Option (Int32 × zHp) :=
  some (b0, h)
def s_X10_stands (a1 : Int32) (a2 : Int32) (h : zHp) : Option (Int32 × zHp) :=
  (s_X10_isCode a1 h).bind fun q1 =>
  if q1.1 = 0 then
    (s_X10_refuse (-1 : Int32) q1.2).bind fun q8 =>
    some (q8.1, q8.2)
  else
    (s_X10_wrongDay a2 q1.2).bind fun q3 =>
    if 0 ≤ q3.1 then
      (s_X10_standsFor a1 a2 q3.2).bind fun q5 =>
      s_X10_stands_L38 q5.1 q5.2
    else
      (s_X10_wrongDay a2 q3.2).bind fun q6 =>
      (s_X10_refuse q6.1 q6.2).bind fun q7 =>
      s_X10_stands_L38 q7.1 q7.2
set_option maxRecDepth 100000 in
set_option maxHeartbeats 4000000 in
theorem k_X10_stands_L38 {l : Launch} {D : va_G} {cy : Nat → ClassId} {S0 d : Nat} {J : zJ} (q : (Int32 × zHp)) (hd : 2 ≤ d) (X : zOK l D cy S0 d RX10 cX10_stands 3 (yX10_stands.name == "<init>") 117 117 (some .int) (zRT 117 zRF (some (.int q.1)) q.2) J) : ∀ (b0 : Int32) (h : zHp), s_X10_stands_L38 b0 h = some q → J 38 [] [.int b0] 117 zRF h := by
  intro b0 h e
  unfold s_X10_stands_L38 at e
  exact zv_retI X e rfl dX10_stands_38
set_option maxRecDepth 100000 in
set_option maxHeartbeats 4000000 in
theorem k_X10_stands {l : Launch} {D : va_G} {cy : Nat → ClassId} {S0 d : Nat} (hd : 2 ≤ d) {a1 : Int32} {a2 : Int32} {h : zHp} {q : (Int32 × zHp)} (e : s_X10_stands a1 a2 h = some q) : zCT l D cy S0 d yX10_stands cX10_stands 3 (some .int) [.ref 67, .int a1, .int a2] 117 zRF h (some (.int q.1)) 117 zRF q.2 := by
  unfold s_X10_stands at e
  refine zCT_of RX10 rfl zm_X10_stands (Nat.le_refl _) (Nat.le_of_ble_eq_true rfl) (fun J X => ?_)
  show J 0 [(0, .ref 67), (1, .int a1), (2, .int a2)] [] 117 zRF h
  refine zv_aload_n X dX10_stands_0 rfl rfl ?_
  refine zv_iload_n X dX10_stands_1 rfl rfl ?_
  refine zb e (fun q1 gq1 e => ?_)
  refine zv_callV (stk := [.int a1, .ref 67]) (as := [.int a1]) (st := []) (k := 67) X zl_RX10_185 zm_X10_isCode (k_X10_isCode (d := d - 1) (by omega) gq1) (by omega) zb_67 (by rw [zk_67]; rfl) rfl rfl (Nat.le_of_ble_eq_true rfl) (Nat.le_refl _) rfl dX10_stands_2 ?_
  show J 5 [(0, .ref 67), (1, .int a1), (2, .int a2)] [.int q1.1] 117 zRF q1.2
  refine zv_if_ne (tgt := 14) X dX10_stands_5 (by decide) (fun c2 => ?_) (fun c2 => ?_)
  · replace e := zif e c2
    refine zv_iload_n X dX10_stands_14 rfl rfl ?_
    refine zb e (fun q3 gq3 e => ?_)
    refine zv_callS (stk := [.int a2]) (as := [.int a2]) (st := []) X zl_RX10_189 zm_X10_wrongDay (k_X10_wrongDay (d := d - 1) (by omega) gq3) (by omega) rfl (Nat.le_of_ble_eq_true rfl) (Nat.le_refl _) rfl dX10_stands_15 ?_
    show J 18 [(0, .ref 67), (1, .int a1), (2, .int a2)] [.int q3.1] 117 zRF q3.2
    refine zv_if_ge (tgt := 32) X dX10_stands_18 (by decide) (fun c4 => ?_) (fun c4 => ?_)
    · replace e := zit e c4
      refine zv_aload_n X dX10_stands_32 rfl rfl ?_
      refine zv_iload_n X dX10_stands_33 rfl rfl ?_
      refine zv_iload_n X dX10_stands_34 rfl rfl ?_
      refine zb e (fun q5 gq5 e => ?_)
      refine zv_callV (stk := [.int a2, .int a1, .ref 67]) (as := [.int a1, .int a2]) (st := []) (k := 67) X zl_RX10_192 zm_X10_standsFor (k_X10_standsFor (d := d - 1) (by omega) gq5) (by omega) zb_67 (by rw [zk_67]; rfl) rfl rfl (Nat.le_of_ble_eq_true rfl) (Nat.le_refl _) rfl dX10_stands_35 ?_
      show J 38 [(0, .ref 67), (1, .int a1), (2, .int a2)] [.int q5.1] 117 zRF q5.2
      exact zv_pick X [] rfl (k_X10_stands_L38 q hd X _ _ e)
    · replace e := zif e c4
      refine zv_aload_n X dX10_stands_21 rfl rfl ?_
      refine zv_iload_n X dX10_stands_22 rfl rfl ?_
      refine zb e (fun q6 gq6 e => ?_)
      refine zv_callS (stk := [.int a2, .ref 67]) (as := [.int a2]) (st := [.ref 67]) X zl_RX10_189 zm_X10_wrongDay (k_X10_wrongDay (d := d - 1) (by omega) gq6) (by omega) rfl (Nat.le_of_ble_eq_true rfl) (Nat.le_refl _) rfl dX10_stands_23 ?_
      show J 26 [(0, .ref 67), (1, .int a1), (2, .int a2)] [.int q6.1, .ref 67] 117 zRF q6.2
      refine zb e (fun q7 gq7 e => ?_)
      refine zv_callV (stk := [.int q6.1, .ref 67]) (as := [.int q6.1]) (st := []) (k := 67) X zl_RX10_175 zm_X10_refuse (k_X10_refuse (d := d - 1) (by omega) gq7) (by omega) zb_67 (by rw [zk_67]; rfl) rfl rfl (Nat.le_of_ble_eq_true rfl) (Nat.le_refl _) rfl dX10_stands_26 ?_
      show J 29 [(0, .ref 67), (1, .int a1), (2, .int a2)] [.int q7.1] 117 zRF q7.2
      refine zv_goto (tgt := 38) X dX10_stands_29 (by decide) ?_
      exact zv_pick X [] rfl (k_X10_stands_L38 q hd X _ _ e)
  · replace e := zit e c2
    refine zv_aload_n X dX10_stands_8 rfl rfl ?_
    refine zv_iconst (v := (-1 : Int32)) X dX10_stands_9 zic_m1 ?_
    refine zb e (fun q8 gq8 e => ?_)
    refine zv_callV (stk := [.int (-1 : Int32), .ref 67]) (as := [.int (-1 : Int32)]) (st := []) (k := 67) X zl_RX10_175 zm_X10_refuse (k_X10_refuse (d := d - 1) (by omega) gq8) (by omega) zb_67 (by rw [zk_67]; rfl) rfl rfl (Nat.le_of_ble_eq_true rfl) (Nat.le_refl _) rfl dX10_stands_10 ?_
    show J 13 [(0, .ref 67), (1, .int a1), (2, .int a2)] [.int q8.1] 117 zRF q8.2
    exact zv_retI X e rfl dX10_stands_13
-- X0_changeMost
def s_X0_changeMost (a1 : Int32) (a2 : Int32) (h : zHp) : Option (Int32 × zHp) :=
  (zri h 12 5 a1).bind fun v1 =>
  (zui h 12 5 a1 a2).bind fun h2 =>
  some (v1, h2)
set_option maxRecDepth 100000 in
set_option maxHeartbeats 4000000 in
theorem k_X0_changeMost {l : Launch} {D : va_G} {cy : Nat → ClassId} {S0 d : Nat} (hd : 0 ≤ d) {a1 : Int32} {a2 : Int32} {h : zHp} {q : (Int32 × zHp)} (e : s_X0_changeMost a1 a2 h = some q) : zCT l D cy S0 d yX0_changeMost cX0_changeMost 4 (some .int) [.ref 6, .int a1, .int a2] 117 zRF h (some (.int q.1)) 117 zRF q.2 := by
  unfold s_X0_changeMost at e
  refine zCT_of RX0 rfl zm_X0_changeMost (Nat.le_refl _) (Nat.le_of_ble_eq_true rfl) (fun J X => ?_)
  show J 0 [(0, .ref 6), (1, .int a1), (2, .int a2)] [] 117 zRF h
  refine zv_aload_n X dX0_changeMost_0 rfl rfl ?_
  refine zv_getR X zf_RX0_27 znt_a zk_6 zb_6 zr_6_5 dX0_changeMost_1 ?_
  refine zv_iload_n X dX0_changeMost_4 rfl rfl ?_
  refine zb e (fun v1 gv1 e => ?_)
  refine zv_iald X zk_12 zl_12 zb_12 dX0_changeMost_5 gv1 ?_
  refine zv_istore_n (i := 3) (lv' := [(3, .int v1), (0, .ref 6), (1, .int a1), (2, .int a2)]) X dX0_changeMost_6 rfl (Nat.le_of_ble_eq_true rfl) rfl ?_
  refine zv_aload_n X dX0_changeMost_7 rfl rfl ?_
  refine zv_getR X zf_RX0_27 znt_a zk_6 zb_6 zr_6_5 dX0_changeMost_8 ?_
  refine zv_iload_n X dX0_changeMost_11 rfl rfl ?_
  refine zv_iload_n X dX0_changeMost_12 rfl rfl ?_
  refine zb e (fun h2 gh2 e => ?_)
  refine zv_iast X zk_12 zl_12 zb_12 dX0_changeMost_13 gh2 ?_
  refine zv_iload_n X dX0_changeMost_14 rfl rfl ?_
  exact zv_retI X e rfl dX0_changeMost_15
-- X9_most
def s_X9_most (a1 : Int32) (a2 : Int32) (h : zHp) : Option (Int32 × zHp) :=
  (s_X9_isWithin a1 (5 : Int32) h).bind fun q1 =>
  if q1.1 = 0 then
    (s_X9_refused (-1 : Int32) q1.2).bind fun q8 =>
    some (q8.1, q8.2)
  else
    if 0 ≤ a2 then
      if a2 ≤ (200 : Int32) then
        (s_X0_changeMost a1 a2 q1.2).bind fun q5 =>
        some (q5.1, q5.2)
      else
        (s_X9_refused (-6 : Int32) q1.2).bind fun q6 =>
        some (q6.1, q6.2)
    else
      (s_X9_refused (-4 : Int32) q1.2).bind fun q7 =>
      some (q7.1, q7.2)
set_option maxRecDepth 100000 in
set_option maxHeartbeats 4000000 in
theorem k_X9_most {l : Launch} {D : va_G} {cy : Nat → ClassId} {S0 d : Nat} (hd : 1 ≤ d) {a1 : Int32} {a2 : Int32} {h : zHp} {q : (Int32 × zHp)} (e : s_X9_most a1 a2 h = some q) : zCT l D cy S0 d yX9_most cX9_most 3 (some .int) [.ref 0, .int a1, .int a2] 117 zRF h (some (.int q.1)) 117 zRF q.2 := by
  unfold s_X9_most at e
  refine zCT_of RX9 rfl zm_X9_most (Nat.le_refl _) (Nat.le_of_ble_eq_true rfl) (fun J X => ?_)
  show J 0 [(0, .ref 0), (1, .int a1), (2, .int a2)] [] 117 zRF h
  refine zv_iload_n X dX9_most_0 rfl rfl ?_
  refine zv_iconst (v := (5 : Int32)) X dX9_most_1 zic_5 ?_
  refine zb e (fun q1 gq1 e => ?_)
  refine zv_callS (stk := [.int (5 : Int32), .int a1]) (as := [.int a1, .int (5 : Int32)]) (st := []) X zl_RX9_112 zm_X9_isWithin (k_X9_isWithin (d := d - 1) (by omega) gq1) (by omega) rfl (Nat.le_of_ble_eq_true rfl) (Nat.le_refl _) rfl dX9_most_2 ?_
  show J 5 [(0, .ref 0), (1, .int a1), (2, .int a2)] [.int q1.1] 117 zRF q1.2
  refine zv_if_ne (tgt := 14) X dX9_most_5 (by decide) (fun c2 => ?_) (fun c2 => ?_)
  · replace e := zif e c2
    refine zv_iload_n X dX9_most_14 rfl rfl ?_
    refine zv_if_ge (tgt := 25) X dX9_most_15 (by decide) (fun c3 => ?_) (fun c3 => ?_)
    · replace e := zit e c3
      refine zv_iload_n X dX9_most_25 rfl rfl ?_
      refine zv_sipush (v := (200 : Int32)) X dX9_most_26 zsp_200 ?_
      refine zv_icmp_le (tgt := 39) X dX9_most_29 (by decide) (fun c4 => ?_) (fun c4 => ?_)
      · replace e := zit e c4
        refine zv_aload_n X dX9_most_39 rfl rfl ?_
        refine zv_getR X zf_RX9_29 znt_o zk_0 zb_0 zr_0_5 dX9_most_40 ?_
        refine zv_iload_n X dX9_most_43 rfl rfl ?_
        refine zv_iload_n X dX9_most_44 rfl rfl ?_
        refine zb e (fun q5 gq5 e => ?_)
        refine zv_callV (stk := [.int a2, .int a1, .ref 6]) (as := [.int a1, .int a2]) (st := []) (k := 6) X zl_RX9_139 zm_X0_changeMost (k_X0_changeMost (d := d - 1) (by omega) gq5) (by omega) zb_6 (by rw [zk_6]; rfl) rfl rfl (Nat.le_of_ble_eq_true rfl) (Nat.le_refl _) rfl dX9_most_45 ?_
        show J 48 [(0, .ref 0), (1, .int a1), (2, .int a2)] [.int q5.1] 117 zRF q5.2
        exact zv_retI X e rfl dX9_most_48
      · replace e := zif e c4
        refine zv_aload_n X dX9_most_32 rfl rfl ?_
        refine zv_bipush (v := (-6 : Int32)) X dX9_most_33 zbp_m6 ?_
        refine zb e (fun q6 gq6 e => ?_)
        refine zv_callV (stk := [.int (-6 : Int32), .ref 0]) (as := [.int (-6 : Int32)]) (st := []) (k := 0) X zl_RX9_108 zm_X9_refused (k_X9_refused (d := d - 1) (by omega) gq6) (by omega) zb_0 (by rw [zk_0]; rfl) rfl rfl (Nat.le_of_ble_eq_true rfl) (Nat.le_refl _) rfl dX9_most_35 ?_
        show J 38 [(0, .ref 0), (1, .int a1), (2, .int a2)] [.int q6.1] 117 zRF q6.2
        exact zv_retI X e rfl dX9_most_38
    · replace e := zif e c3
      refine zv_aload_n X dX9_most_18 rfl rfl ?_
      refine zv_bipush (v := (-4 : Int32)) X dX9_most_19 zbp_m4 ?_
      refine zb e (fun q7 gq7 e => ?_)
      refine zv_callV (stk := [.int (-4 : Int32), .ref 0]) (as := [.int (-4 : Int32)]) (st := []) (k := 0) X zl_RX9_108 zm_X9_refused (k_X9_refused (d := d - 1) (by omega) gq7) (by omega) zb_0 (by rw [zk_0]; rfl) rfl rfl (Nat.le_of_ble_eq_true rfl) (Nat.le_refl _) rfl dX9_most_21 ?_
      show J 24 [(0, .ref 0), (1, .int a1), (2, .int a2)] [.int q7.1] 117 zRF q7.2
      exact zv_retI X e rfl dX9_most_24
  · replace e := zit e c2
    refine zv_aload_n X dX9_most_8 rfl rfl ?_
    refine zv_iconst (v := (-1 : Int32)) X dX9_most_9 zic_m1 ?_
    refine zb e (fun q8 gq8 e => ?_)
    refine zv_callV (stk := [.int (-1 : Int32), .ref 0]) (as := [.int (-1 : Int32)]) (st := []) (k := 0) X zl_RX9_108 zm_X9_refused (k_X9_refused (d := d - 1) (by omega) gq8) (by omega) zb_0 (by rw [zk_0]; rfl) rfl rfl (Nat.le_of_ble_eq_true rfl) (Nat.le_refl _) rfl dX9_most_10 ?_
    show J 13 [(0, .ref 0), (1, .int a1), (2, .int a2)] [.int q8.1] 117 zRF q8.2
    exact zv_retI X e rfl dX9_most_13
-- X10_most
def s_X10_most (a1 : Int32) (a2 : Int32) (h : zHp) : Option (Int32 × zHp) :=
  (s_X10_in a1 (0 : Int32) (4 : Int32) h).bind fun q1 =>
  if q1.1 = 0 then
    (s_X10_refuse (-1 : Int32) q1.2).bind fun q9 =>
    some (q9.1, q9.2)
  else
    if 0 ≤ a2 then
      if a2 ≤ (200 : Int32) then
        (zri q1.2 73 5 a1).bind fun v5 =>
        (zui q1.2 73 5 a1 a2).bind fun h6 =>
        some (v5, h6)
      else
        (s_X10_refuse (-6 : Int32) q1.2).bind fun q7 =>
        some (q7.1, q7.2)
    else
      (s_X10_refuse (-4 : Int32) q1.2).bind fun q8 =>
      some (q8.1, q8.2)
set_option maxRecDepth 100000 in
set_option maxHeartbeats 4000000 in
theorem k_X10_most {l : Launch} {D : va_G} {cy : Nat → ClassId} {S0 d : Nat} (hd : 1 ≤ d) {a1 : Int32} {a2 : Int32} {h : zHp} {q : (Int32 × zHp)} (e : s_X10_most a1 a2 h = some q) : zCT l D cy S0 d yX10_most cX10_most 4 (some .int) [.ref 67, .int a1, .int a2] 117 zRF h (some (.int q.1)) 117 zRF q.2 := by
  unfold s_X10_most at e
  refine zCT_of RX10 rfl zm_X10_most (Nat.le_refl _) (Nat.le_of_ble_eq_true rfl) (fun J X => ?_)
  show J 0 [(0, .ref 67), (1, .int a1), (2, .int a2)] [] 117 zRF h
  refine zv_iload_n X dX10_most_0 rfl rfl ?_
  refine zv_iconst (v := (0 : Int32)) X dX10_most_1 zic_0 ?_
  refine zv_iconst (v := (4 : Int32)) X dX10_most_2 zic_4 ?_
  refine zb e (fun q1 gq1 e => ?_)
  refine zv_callS (stk := [.int (4 : Int32), .int (0 : Int32), .int a1]) (as := [.int a1, .int (0 : Int32), .int (4 : Int32)]) (st := []) X zl_RX10_168 zm_X10_in (k_X10_in (d := d - 1) (by omega) gq1) (by omega) rfl (Nat.le_of_ble_eq_true rfl) (Nat.le_refl _) rfl dX10_most_3 ?_
  show J 6 [(0, .ref 67), (1, .int a1), (2, .int a2)] [.int q1.1] 117 zRF q1.2
  refine zv_if_ne (tgt := 15) X dX10_most_6 (by decide) (fun c2 => ?_) (fun c2 => ?_)
  · replace e := zif e c2
    refine zv_iload_n X dX10_most_15 rfl rfl ?_
    refine zv_if_ge (tgt := 26) X dX10_most_16 (by decide) (fun c3 => ?_) (fun c3 => ?_)
    · replace e := zit e c3
      refine zv_iload_n X dX10_most_26 rfl rfl ?_
      refine zv_sipush (v := (200 : Int32)) X dX10_most_27 zsp_200 ?_
      refine zv_icmp_le (tgt := 40) X dX10_most_30 (by decide) (fun c4 => ?_) (fun c4 => ?_)
      · replace e := zit e c4
        refine zv_aload_n X dX10_most_40 rfl rfl ?_
        refine zv_getR X zf_RX10_25 znt_a zk_67 zb_67 zr_67_7 dX10_most_41 ?_
        refine zv_iload_n X dX10_most_44 rfl rfl ?_
        refine zb e (fun v5 gv5 e => ?_)
        refine zv_iald X zk_73 zl_73 zb_73 dX10_most_45 gv5 ?_
        refine zv_istore_n (i := 3) (lv' := [(3, .int v5), (0, .ref 67), (1, .int a1), (2, .int a2)]) X dX10_most_46 rfl (Nat.le_of_ble_eq_true rfl) rfl ?_
        refine zv_aload_n X dX10_most_47 rfl rfl ?_
        refine zv_getR X zf_RX10_25 znt_a zk_67 zb_67 zr_67_7 dX10_most_48 ?_
        refine zv_iload_n X dX10_most_51 rfl rfl ?_
        refine zv_iload_n X dX10_most_52 rfl rfl ?_
        refine zb e (fun h6 gh6 e => ?_)
        refine zv_iast X zk_73 zl_73 zb_73 dX10_most_53 gh6 ?_
        refine zv_iload_n X dX10_most_54 rfl rfl ?_
        exact zv_retI X e rfl dX10_most_55
      · replace e := zif e c4
        refine zv_aload_n X dX10_most_33 rfl rfl ?_
        refine zv_bipush (v := (-6 : Int32)) X dX10_most_34 zbp_m6 ?_
        refine zb e (fun q7 gq7 e => ?_)
        refine zv_callV (stk := [.int (-6 : Int32), .ref 67]) (as := [.int (-6 : Int32)]) (st := []) (k := 67) X zl_RX10_175 zm_X10_refuse (k_X10_refuse (d := d - 1) (by omega) gq7) (by omega) zb_67 (by rw [zk_67]; rfl) rfl rfl (Nat.le_of_ble_eq_true rfl) (Nat.le_refl _) rfl dX10_most_36 ?_
        show J 39 [(0, .ref 67), (1, .int a1), (2, .int a2)] [.int q7.1] 117 zRF q7.2
        exact zv_retI X e rfl dX10_most_39
    · replace e := zif e c3
      refine zv_aload_n X dX10_most_19 rfl rfl ?_
      refine zv_bipush (v := (-4 : Int32)) X dX10_most_20 zbp_m4 ?_
      refine zb e (fun q8 gq8 e => ?_)
      refine zv_callV (stk := [.int (-4 : Int32), .ref 67]) (as := [.int (-4 : Int32)]) (st := []) (k := 67) X zl_RX10_175 zm_X10_refuse (k_X10_refuse (d := d - 1) (by omega) gq8) (by omega) zb_67 (by rw [zk_67]; rfl) rfl rfl (Nat.le_of_ble_eq_true rfl) (Nat.le_refl _) rfl dX10_most_22 ?_
      show J 25 [(0, .ref 67), (1, .int a1), (2, .int a2)] [.int q8.1] 117 zRF q8.2
      exact zv_retI X e rfl dX10_most_25
  · replace e := zit e c2
    refine zv_aload_n X dX10_most_9 rfl rfl ?_
    refine zv_iconst (v := (-1 : Int32)) X dX10_most_10 zic_m1 ?_
    refine zb e (fun q9 gq9 e => ?_)
    refine zv_callV (stk := [.int (-1 : Int32), .ref 67]) (as := [.int (-1 : Int32)]) (st := []) (k := 67) X zl_RX10_175 zm_X10_refuse (k_X10_refuse (d := d - 1) (by omega) gq9) (by omega) zb_67 (by rw [zk_67]; rfl) rfl rfl (Nat.le_of_ble_eq_true rfl) (Nat.le_refl _) rfl dX10_most_11 ?_
    show J 14 [(0, .ref 67), (1, .int a1), (2, .int a2)] [.int q9.1] 117 zRF q9.2
    exact zv_retI X e rfl dX10_most_14
-- X4_isFull
def s_X4_isFull_L14 (b0 : Int32) (h : zHp) : Option (Int32 × zHp) :=
  (zbo b0).bind fun u1 =>
  some (b0, h)
def s_X4_isFull  (h : zHp) : Option (Int32 × zHp) :=
  if (h.1 13 10) < (20 : Int32) then
    s_X4_isFull_L14 (0 : Int32) h
  else
    s_X4_isFull_L14 (1 : Int32) h
set_option maxRecDepth 100000 in
set_option maxHeartbeats 4000000 in
theorem k_X4_isFull_L14 {l : Launch} {D : va_G} {cy : Nat → ClassId} {S0 d : Nat} {J : zJ} (q : (Int32 × zHp)) (hd : 0 ≤ d) (X : zOK l D cy S0 d RX4 cX4_isFull 1 (yX4_isFull.name == "<init>") 117 117 (some .boolean) (zRT 117 zRF (some (.int q.1)) q.2) J) : ∀ (b0 : Int32) (h : zHp), s_X4_isFull_L14 b0 h = some q → J 14 [] [.int b0] 117 zRF h := by
  intro b0 h e
  unfold s_X4_isFull_L14 at e
  refine zb e (fun u gu e => ?_)
  exact zv_retZ X e rfl (zbo_ok gu) dX4_isFull_14
set_option maxRecDepth 100000 in
set_option maxHeartbeats 4000000 in
theorem k_X4_isFull {l : Launch} {D : va_G} {cy : Nat → ClassId} {S0 d : Nat} (hd : 0 ≤ d) {h : zHp} {q : (Int32 × zHp)} (e : s_X4_isFull  h = some q) : zCT l D cy S0 d yX4_isFull cX4_isFull 1 (some .boolean) [.ref 13] 117 zRF h (some (.int q.1)) 117 zRF q.2 := by
  unfold s_X4_isFull at e
  refine zCT_of RX4 rfl zm_X4_isFull (Nat.le_refl _) (Nat.le_of_ble_eq_true rfl) (fun J X => ?_)
  show J 0 [(0, .ref 13)] [] 117 zRF h
  refine zv_aload_n X dX4_isFull_0 rfl rfl ?_
  refine zv_getI X zf_RX4_43 zk_13 zb_13 dX4_isFull_1 ?_
  refine zv_bipush (v := (20 : Int32)) X dX4_isFull_4 zbp_20 ?_
  refine zv_icmp_lt (tgt := 13) X dX4_isFull_6 (by decide) (fun c1 => ?_) (fun c1 => ?_)
  · replace e := zit e c1
    refine zv_iconst (v := (0 : Int32)) X dX4_isFull_13 zic_0 ?_
    exact zv_pick X [] rfl (k_X4_isFull_L14 q hd X _ _ e)
  · replace e := zif e c1
    refine zv_iconst (v := (1 : Int32)) X dX4_isFull_9 zic_1 ?_
    refine zv_goto (tgt := 14) X dX4_isFull_10 (by decide) ?_
    exact zv_pick X [] rfl (k_X4_isFull_L14 q hd X _ _ e)
-- X4_add
def s_X4_add (a1 : Int32) (a2 : Int32) (a3 : Int32) (a4 : Int32) (a5 : Int32) (h : zHp) : Option (Int32 × zHp) :=
  (zui h 14 20 (h.1 13 10) a1).bind fun h1 =>
  (zui h1 15 20 (h1.1 13 10) a2).bind fun h2 =>
  (zui h2 16 20 (h2.1 13 10) a3).bind fun h3 =>
  (zui h3 17 20 (h3.1 13 10) a4).bind fun h4 =>
  (zui h4 18 20 (h4.1 13 10) a5).bind fun h5 =>
  (some (h5.1 13 10)).bind fun v6 =>
  (some (v6 + (1 : Int32))).bind fun v7 =>
  (zpi h5 13 10 v7).bind fun h8 =>
  some (v6, h8)
set_option maxRecDepth 100000 in
set_option maxHeartbeats 4000000 in
theorem k_X4_add {l : Launch} {D : va_G} {cy : Nat → ClassId} {S0 d : Nat} (hd : 0 ≤ d) {a1 : Int32} {a2 : Int32} {a3 : Int32} {a4 : Int32} {a5 : Int32} {h : zHp} {q : (Int32 × zHp)} (e : s_X4_add a1 a2 a3 a4 a5 h = some q) : zCT l D cy S0 d yX4_add cX4_add 6 (some .int) [.ref 13, .int a1, .int a2, .int a3, .int a4, .int a5] 117 zRF h (some (.int q.1)) 117 zRF q.2 := by
  unfold s_X4_add at e
  refine zCT_of RX4 rfl zm_X4_add (Nat.le_refl _) (Nat.le_of_ble_eq_true rfl) (fun J X => ?_)
  show J 0 [(0, .ref 13), (1, .int a1), (2, .int a2), (3, .int a3), (4, .int a4), (5, .int a5)] [] 117 zRF h
  refine zv_aload_n X dX4_add_0 rfl rfl ?_
  refine zv_getR X zf_RX4_9 znt_a zk_13 zb_13 zr_13_0 dX4_add_1 ?_
  refine zv_aload_n X dX4_add_4 rfl rfl ?_
  refine zv_getI X zf_RX4_43 zk_13 zb_13 dX4_add_5 ?_
  refine zv_iload_n X dX4_add_8 rfl rfl ?_
  refine zb e (fun h1 gh1 e => ?_)
  refine zv_iast X zk_14 zl_14 zb_14 dX4_add_9 gh1 ?_
  refine zv_aload_n X dX4_add_10 rfl rfl ?_
  refine zv_getR X zf_RX4_15 znt_a zk_13 zb_13 zr_13_1 dX4_add_11 ?_
  refine zv_aload_n X dX4_add_14 rfl rfl ?_
  refine zv_getI X zf_RX4_43 zk_13 zb_13 dX4_add_15 ?_
  refine zv_iload_n X dX4_add_18 rfl rfl ?_
  refine zb e (fun h2 gh2 e => ?_)
  refine zv_iast X zk_15 zl_15 zb_15 dX4_add_19 gh2 ?_
  refine zv_aload_n X dX4_add_20 rfl rfl ?_
  refine zv_getR X zf_RX4_18 znt_a zk_13 zb_13 zr_13_2 dX4_add_21 ?_
  refine zv_aload_n X dX4_add_24 rfl rfl ?_
  refine zv_getI X zf_RX4_43 zk_13 zb_13 dX4_add_25 ?_
  refine zv_iload_n X dX4_add_28 rfl rfl ?_
  refine zb e (fun h3 gh3 e => ?_)
  refine zv_iast X zk_16 zl_16 zb_16 dX4_add_29 gh3 ?_
  refine zv_aload_n X dX4_add_30 rfl rfl ?_
  refine zv_getR X zf_RX4_21 znt_a zk_13 zb_13 zr_13_3 dX4_add_31 ?_
  refine zv_aload_n X dX4_add_34 rfl rfl ?_
  refine zv_getI X zf_RX4_43 zk_13 zb_13 dX4_add_35 ?_
  refine zv_iload X dX4_add_38 rfl ?_
  refine zb e (fun h4 gh4 e => ?_)
  refine zv_iast X zk_17 zl_17 zb_17 dX4_add_40 gh4 ?_
  refine zv_aload_n X dX4_add_41 rfl rfl ?_
  refine zv_getR X zf_RX4_24 znt_a zk_13 zb_13 zr_13_4 dX4_add_42 ?_
  refine zv_aload_n X dX4_add_45 rfl rfl ?_
  refine zv_getI X zf_RX4_43 zk_13 zb_13 dX4_add_46 ?_
  refine zv_iload X dX4_add_49 rfl ?_
  refine zb e (fun h5 gh5 e => ?_)
  refine zv_iast X zk_18 zl_18 zb_18 dX4_add_51 gh5 ?_
  refine zv_aload_n X dX4_add_52 rfl rfl ?_
  refine zv_dup_r X dX4_add_53 ?_
  refine zv_getI X zf_RX4_43 zk_13 zb_13 dX4_add_54 ?_
  refine zb e (fun v6 gv6 e => ?_)
  refine zv_nmI X gv6 ?_
  refine zv_dup_x1 X dX4_add_57 ?_
  refine zv_iconst (v := (1 : Int32)) X dX4_add_58 zic_1 ?_
  refine zv_iadd X dX4_add_59 ?_
  refine zb e (fun v7 gv7 e => ?_)
  refine zv_nmI X gv7 ?_
  refine zb e (fun h8 gh8 e => ?_)
  refine zv_putI' X zf_RX4_43 zk_13 zb_13 dX4_add_60 gh8 ?_
  exact zv_retI X e rfl dX4_add_63
-- X9_kitchen
def s_X9_kitchen_L34  (h : zHp) : Option (Int32 × zHp) :=
  (s_X9_refused (-1 : Int32) h).bind fun q1 =>
  some (q1.1, q1.2)
def s_X9_kitchen_L50  (h : zHp) : Option (Int32 × zHp) :=
  (s_X9_refused (-4 : Int32) h).bind fun q1 =>
  some (q1.1, q1.2)
def s_X9_kitchen_L82  (h : zHp) : Option (Int32 × zHp) :=
  (s_X9_refused (-6 : Int32) h).bind fun q1 =>
  some (q1.1, q1.2)
def s_X9_kitchen (a1 : Int32) (a2 : Int32) (a3 : Int32) (a4 : Int32) (a5 : Int32) (h : zHp) : Option (Int32 × zHp) :=
  (s_X9_isWithin a1 (4 : Int32) h).bind fun q1 =>
  if q1.1 = 0 then
    (s_X9_refused (-2 : Int32) q1.2).bind fun q14 =>
    some (q14.1, q14.2)
  else
    (s_X9_isWithin a2 (6 : Int32) q1.2).bind fun q3 =>
    if q3.1 = 0 then
      s_X9_kitchen_L34 q3.2
    else
      (s_X9_isWithin a4 (10 : Int32) q3.2).bind fun q5 =>
      if q5.1 = 0 then
        s_X9_kitchen_L34 q5.2
      else
        if a3 < (1 : Int32) then
          s_X9_kitchen_L50 q5.2
        else
          if 0 ≤ a5 then
            if (999 : Int32) < a3 then
              s_X9_kitchen_L82 q5.2
            else
              if (255 : Int32) < a5 then
                s_X9_kitchen_L82 q5.2
              else
                (s_X4_isFull q5.2).bind fun q11 =>
                if q11.1 = 0 then
                  (s_X4_add a1 a2 a3 a4 a5 q11.2).bind fun q13 =>
                  some (q13.1, q13.2)
                else
                  s_X9_kitchen_L82 q11.2
          else
            s_X9_kitchen_L50 q5.2
set_option maxRecDepth 100000 in
set_option maxHeartbeats 4000000 in
theorem k_X9_kitchen_L34 {l : Launch} {D : va_G} {cy : Nat → ClassId} {S0 d : Nat} {J : zJ} (q : (Int32 × zHp)) (hd : 1 ≤ d) (X : zOK l D cy S0 d RX9 cX9_kitchen 6 (yX9_kitchen.name == "<init>") 117 117 (some .int) (zRT 117 zRF (some (.int q.1)) q.2) J) : ∀  (h : zHp), s_X9_kitchen_L34  h = some q → J 34 [(0, .ref 0)] [] 117 zRF h := by
  intro  h e
  unfold s_X9_kitchen_L34 at e
  refine zv_aload_n X dX9_kitchen_34 rfl rfl ?_
  refine zv_iconst (v := (-1 : Int32)) X dX9_kitchen_35 zic_m1 ?_
  refine zb e (fun q1 gq1 e => ?_)
  refine zv_callV (stk := [.int (-1 : Int32), .ref 0]) (as := [.int (-1 : Int32)]) (st := []) (k := 0) X zl_RX9_108 zm_X9_refused (k_X9_refused (d := d - 1) (by omega) gq1) (by omega) zb_0 (by rw [zk_0]; rfl) rfl rfl (Nat.le_of_ble_eq_true rfl) (Nat.le_refl _) rfl dX9_kitchen_36 ?_
  show J 39 [(0, .ref 0)] [.int q1.1] 117 zRF q1.2
  exact zv_retI X e rfl dX9_kitchen_39
set_option maxRecDepth 100000 in
set_option maxHeartbeats 4000000 in
theorem k_X9_kitchen_L50 {l : Launch} {D : va_G} {cy : Nat → ClassId} {S0 d : Nat} {J : zJ} (q : (Int32 × zHp)) (hd : 1 ≤ d) (X : zOK l D cy S0 d RX9 cX9_kitchen 6 (yX9_kitchen.name == "<init>") 117 117 (some .int) (zRT 117 zRF (some (.int q.1)) q.2) J) : ∀  (h : zHp), s_X9_kitchen_L50  h = some q → J 50 [(0, .ref 0)] [] 117 zRF h := by
  intro  h e
  unfold s_X9_kitchen_L50 at e
  refine zv_aload_n X dX9_kitchen_50 rfl rfl ?_
  refine zv_bipush (v := (-4 : Int32)) X dX9_kitchen_51 zbp_m4 ?_
  refine zb e (fun q1 gq1 e => ?_)
  refine zv_callV (stk := [.int (-4 : Int32), .ref 0]) (as := [.int (-4 : Int32)]) (st := []) (k := 0) X zl_RX9_108 zm_X9_refused (k_X9_refused (d := d - 1) (by omega) gq1) (by omega) zb_0 (by rw [zk_0]; rfl) rfl rfl (Nat.le_of_ble_eq_true rfl) (Nat.le_refl _) rfl dX9_kitchen_53 ?_
  show J 56 [(0, .ref 0)] [.int q1.1] 117 zRF q1.2
  exact zv_retI X e rfl dX9_kitchen_56
set_option maxRecDepth 100000 in
set_option maxHeartbeats 4000000 in
theorem k_X9_kitchen_L82 {l : Launch} {D : va_G} {cy : Nat → ClassId} {S0 d : Nat} {J : zJ} (q : (Int32 × zHp)) (hd : 1 ≤ d) (X : zOK l D cy S0 d RX9 cX9_kitchen 6 (yX9_kitchen.name == "<init>") 117 117 (some .int) (zRT 117 zRF (some (.int q.1)) q.2) J) : ∀  (h : zHp), s_X9_kitchen_L82  h = some q → J 82 [(0, .ref 0)] [] 117 zRF h := by
  intro  h e
  unfold s_X9_kitchen_L82 at e
  refine zv_aload_n X dX9_kitchen_82 rfl rfl ?_
  refine zv_bipush (v := (-6 : Int32)) X dX9_kitchen_83 zbp_m6 ?_
  refine zb e (fun q1 gq1 e => ?_)
  refine zv_callV (stk := [.int (-6 : Int32), .ref 0]) (as := [.int (-6 : Int32)]) (st := []) (k := 0) X zl_RX9_108 zm_X9_refused (k_X9_refused (d := d - 1) (by omega) gq1) (by omega) zb_0 (by rw [zk_0]; rfl) rfl rfl (Nat.le_of_ble_eq_true rfl) (Nat.le_refl _) rfl dX9_kitchen_85 ?_
  show J 88 [(0, .ref 0)] [.int q1.1] 117 zRF q1.2
  exact zv_retI X e rfl dX9_kitchen_88
set_option maxRecDepth 100000 in
set_option maxHeartbeats 4000000 in
theorem k_X9_kitchen {l : Launch} {D : va_G} {cy : Nat → ClassId} {S0 d : Nat} (hd : 1 ≤ d) {a1 : Int32} {a2 : Int32} {a3 : Int32} {a4 : Int32} {a5 : Int32} {h : zHp} {q : (Int32 × zHp)} (e : s_X9_kitchen a1 a2 a3 a4 a5 h = some q) : zCT l D cy S0 d yX9_kitchen cX9_kitchen 6 (some .int) [.ref 0, .int a1, .int a2, .int a3, .int a4, .int a5] 117 zRF h (some (.int q.1)) 117 zRF q.2 := by
  unfold s_X9_kitchen at e
  refine zCT_of RX9 rfl zm_X9_kitchen (Nat.le_refl _) (Nat.le_of_ble_eq_true rfl) (fun J X => ?_)
  show J 0 [(0, .ref 0), (1, .int a1), (2, .int a2), (3, .int a3), (4, .int a4), (5, .int a5)] [] 117 zRF h
  refine zv_iload_n X dX9_kitchen_0 rfl rfl ?_
  refine zv_iconst (v := (4 : Int32)) X dX9_kitchen_1 zic_4 ?_
  refine zb e (fun q1 gq1 e => ?_)
  refine zv_callS (stk := [.int (4 : Int32), .int a1]) (as := [.int a1, .int (4 : Int32)]) (st := []) X zl_RX9_112 zm_X9_isWithin (k_X9_isWithin (d := d - 1) (by omega) gq1) (by omega) rfl (Nat.le_of_ble_eq_true rfl) (Nat.le_refl _) rfl dX9_kitchen_2 ?_
  show J 5 [(0, .ref 0), (1, .int a1), (2, .int a2), (3, .int a3), (4, .int a4), (5, .int a5)] [.int q1.1] 117 zRF q1.2
  refine zv_if_ne (tgt := 15) X dX9_kitchen_5 (by decide) (fun c2 => ?_) (fun c2 => ?_)
  · replace e := zif e c2
    refine zv_iload_n X dX9_kitchen_15 rfl rfl ?_
    refine zv_bipush (v := (6 : Int32)) X dX9_kitchen_16 zbp_6 ?_
    refine zb e (fun q3 gq3 e => ?_)
    refine zv_callS (stk := [.int (6 : Int32), .int a2]) (as := [.int a2, .int (6 : Int32)]) (st := []) X zl_RX9_112 zm_X9_isWithin (k_X9_isWithin (d := d - 1) (by omega) gq3) (by omega) rfl (Nat.le_of_ble_eq_true rfl) (Nat.le_refl _) rfl dX9_kitchen_18 ?_
    show J 21 [(0, .ref 0), (1, .int a1), (2, .int a2), (3, .int a3), (4, .int a4), (5, .int a5)] [.int q3.1] 117 zRF q3.2
    refine zv_if_eq (tgt := 34) X dX9_kitchen_21 (by decide) (fun c4 => ?_) (fun c4 => ?_)
    · replace e := zit e c4
      exact zv_pick X [0] rfl (k_X9_kitchen_L34 q hd X  _ e)
    · replace e := zif e c4
      refine zv_iload X dX9_kitchen_24 rfl ?_
      refine zv_bipush (v := (10 : Int32)) X dX9_kitchen_26 zbp_10 ?_
      refine zb e (fun q5 gq5 e => ?_)
      refine zv_callS (stk := [.int (10 : Int32), .int a4]) (as := [.int a4, .int (10 : Int32)]) (st := []) X zl_RX9_112 zm_X9_isWithin (k_X9_isWithin (d := d - 1) (by omega) gq5) (by omega) rfl (Nat.le_of_ble_eq_true rfl) (Nat.le_refl _) rfl dX9_kitchen_28 ?_
      show J 31 [(0, .ref 0), (1, .int a1), (2, .int a2), (3, .int a3), (4, .int a4), (5, .int a5)] [.int q5.1] 117 zRF q5.2
      refine zv_if_ne (tgt := 40) X dX9_kitchen_31 (by decide) (fun c6 => ?_) (fun c6 => ?_)
      · replace e := zif e c6
        refine zv_iload_n X dX9_kitchen_40 rfl rfl ?_
        refine zv_iconst (v := (1 : Int32)) X dX9_kitchen_41 zic_1 ?_
        refine zv_icmp_lt (tgt := 50) X dX9_kitchen_42 (by decide) (fun c7 => ?_) (fun c7 => ?_)
        · replace e := zit e c7
          exact zv_pick X [0] rfl (k_X9_kitchen_L50 q hd X  _ e)
        · replace e := zif e c7
          refine zv_iload X dX9_kitchen_45 rfl ?_
          refine zv_if_ge (tgt := 57) X dX9_kitchen_47 (by decide) (fun c8 => ?_) (fun c8 => ?_)
          · replace e := zit e c8
            refine zv_iload_n X dX9_kitchen_57 rfl rfl ?_
            refine zv_sipush (v := (999 : Int32)) X dX9_kitchen_58 zsp_999 ?_
            refine zv_icmp_gt (tgt := 82) X dX9_kitchen_61 (by decide) (fun c9 => ?_) (fun c9 => ?_)
            · replace e := zit e c9
              exact zv_pick X [0] rfl (k_X9_kitchen_L82 q hd X  _ e)
            · replace e := zif e c9
              refine zv_iload X dX9_kitchen_64 rfl ?_
              refine zv_sipush (v := (255 : Int32)) X dX9_kitchen_66 zsp_255 ?_
              refine zv_icmp_gt (tgt := 82) X dX9_kitchen_69 (by decide) (fun c10 => ?_) (fun c10 => ?_)
              · replace e := zit e c10
                exact zv_pick X [0] rfl (k_X9_kitchen_L82 q hd X  _ e)
              · replace e := zif e c10
                refine zv_aload_n X dX9_kitchen_72 rfl rfl ?_
                refine zv_getR X zf_RX9_36 znt_o zk_0 zb_0 zr_0_6 dX9_kitchen_73 ?_
                refine zb e (fun q11 gq11 e => ?_)
                refine zv_callV (stk := [.ref 13]) (as := []) (st := []) (k := 13) X zl_RX9_142 zm_X4_isFull (k_X4_isFull (d := d - 1) (by omega) gq11) (by omega) zb_13 (by rw [zk_13]; rfl) rfl rfl (Nat.le_of_ble_eq_true rfl) (Nat.le_refl _) rfl dX9_kitchen_76 ?_
                show J 79 [(0, .ref 0), (1, .int a1), (2, .int a2), (3, .int a3), (4, .int a4), (5, .int a5)] [.int q11.1] 117 zRF q11.2
                refine zv_if_eq (tgt := 89) X dX9_kitchen_79 (by decide) (fun c12 => ?_) (fun c12 => ?_)
                · replace e := zit e c12
                  refine zv_aload_n X dX9_kitchen_89 rfl rfl ?_
                  refine zv_getR X zf_RX9_36 znt_o zk_0 zb_0 zr_0_6 dX9_kitchen_90 ?_
                  refine zv_iload_n X dX9_kitchen_93 rfl rfl ?_
                  refine zv_iload_n X dX9_kitchen_94 rfl rfl ?_
                  refine zv_iload_n X dX9_kitchen_95 rfl rfl ?_
                  refine zv_iload X dX9_kitchen_96 rfl ?_
                  refine zv_iload X dX9_kitchen_98 rfl ?_
                  refine zb e (fun q13 gq13 e => ?_)
                  refine zv_callV (stk := [.int a5, .int a4, .int a3, .int a2, .int a1, .ref 13]) (as := [.int a1, .int a2, .int a3, .int a4, .int a5]) (st := []) (k := 13) X zl_RX9_143 zm_X4_add (k_X4_add (d := d - 1) (by omega) gq13) (by omega) zb_13 (by rw [zk_13]; rfl) rfl rfl (Nat.le_of_ble_eq_true rfl) (Nat.le_refl _) rfl dX9_kitchen_100 ?_
                  show J 103 [(0, .ref 0), (1, .int a1), (2, .int a2), (3, .int a3), (4, .int a4), (5, .int a5)] [.int q13.1] 117 zRF q13.2
                  exact zv_retI X e rfl dX9_kitchen_103
                · replace e := zif e c12
                  exact zv_pick X [0] rfl (k_X9_kitchen_L82 q hd X  _ e)
          · replace e := zif e c8
            exact zv_pick X [0] rfl (k_X9_kitchen_L50 q hd X  _ e)
      · replace e := zit e c6
        exact zv_pick X [0] rfl (k_X9_kitchen_L34 q hd X  _ e)
  · replace e := zit e c2
    refine zv_aload_n X dX9_kitchen_8 rfl rfl ?_
    refine zv_bipush (v := (-2 : Int32)) X dX9_kitchen_9 zbp_m2 ?_
    refine zb e (fun q14 gq14 e => ?_)
    refine zv_callV (stk := [.int (-2 : Int32), .ref 0]) (as := [.int (-2 : Int32)]) (st := []) (k := 0) X zl_RX9_108 zm_X9_refused (k_X9_refused (d := d - 1) (by omega) gq14) (by omega) zb_0 (by rw [zk_0]; rfl) rfl rfl (Nat.le_of_ble_eq_true rfl) (Nat.le_refl _) rfl dX9_kitchen_11 ?_
    show J 14 [(0, .ref 0), (1, .int a1), (2, .int a2), (3, .int a3), (4, .int a4), (5, .int a5)] [.int q14.1] 117 zRF q14.2
    exact zv_retI X e rfl dX9_kitchen_14
-- X10_kitchen
def s_X10_kitchen_L36  (h : zHp) : Option (Int32 × zHp) :=
  (s_X10_refuse (-1 : Int32) h).bind fun q1 =>
  some (q1.1, q1.2)
def s_X10_kitchen_L52  (h : zHp) : Option (Int32 × zHp) :=
  (s_X10_refuse (-4 : Int32) h).bind fun q1 =>
  some (q1.1, q1.2)
def s_X10_kitchen_L83  (h : zHp) : Option (Int32 × zHp) :=
  (s_X10_refuse (-6 : Int32) h).bind fun q1 =>
  some (q1.1, q1.2)
def s_X10_kitchen (a1 : Int32) (a2 : Int32) (a3 : Int32) (a4 : Int32) (a5 : Int32) (h : zHp) : Option (Int32 × zHp) :=
  (s_X10_in a1 (0 : Int32) (3 : Int32) h).bind fun q1 =>
  if q1.1 = 0 then
    (s_X10_refuse (-2 : Int32) q1.2).bind fun q19 =>
    some (q19.1, q19.2)
  else
    (s_X10_in a2 (0 : Int32) (5 : Int32) q1.2).bind fun q3 =>
    if q3.1 = 0 then
      s_X10_kitchen_L36 q3.2
    else
      (s_X10_in a4 (0 : Int32) (9 : Int32) q3.2).bind fun q5 =>
      if q5.1 = 0 then
        s_X10_kitchen_L36 q5.2
      else
        if a3 < (1 : Int32) then
          s_X10_kitchen_L52 q5.2
        else
          if 0 ≤ a5 then
            if (999 : Int32) < a3 then
              s_X10_kitchen_L83 q5.2
            else
              if (255 : Int32) < a5 then
                s_X10_kitchen_L83 q5.2
              else
                if (q5.2.1 67 8) = (20 : Int32) then
                  s_X10_kitchen_L83 q5.2
                else
                  (zui q5.2 74 20 (q5.2.1 67 8) a1).bind fun h12 =>
                  (zui h12 75 20 (h12.1 67 8) a2).bind fun h13 =>
                  (zui h13 76 20 (h13.1 67 8) a3).bind fun h14 =>
                  (zui h14 77 20 (h14.1 67 8) a4).bind fun h15 =>
                  (zui h15 78 20 (h15.1 67 8) a5).bind fun h16 =>
                  (some ((h16.1 67 8) + (1 : Int32))).bind fun v17 =>
                  (zpi h16 67 8 v17).bind fun h18 =>
                  some ((h18.1 67 8) - (1 : Int32), h18)
          else
            s_X10_kitchen_L52 q5.2
set_option maxRecDepth 100000 in
set_option maxHeartbeats 4000000 in
theorem k_X10_kitchen_L36 {l : Launch} {D : va_G} {cy : Nat → ClassId} {S0 d : Nat} {J : zJ} (q : (Int32 × zHp)) (hd : 1 ≤ d) (X : zOK l D cy S0 d RX10 cX10_kitchen 6 (yX10_kitchen.name == "<init>") 117 117 (some .int) (zRT 117 zRF (some (.int q.1)) q.2) J) : ∀  (h : zHp), s_X10_kitchen_L36  h = some q → J 36 [(0, .ref 67)] [] 117 zRF h := by
  intro  h e
  unfold s_X10_kitchen_L36 at e
  refine zv_aload_n X dX10_kitchen_36 rfl rfl ?_
  refine zv_iconst (v := (-1 : Int32)) X dX10_kitchen_37 zic_m1 ?_
  refine zb e (fun q1 gq1 e => ?_)
  refine zv_callV (stk := [.int (-1 : Int32), .ref 67]) (as := [.int (-1 : Int32)]) (st := []) (k := 67) X zl_RX10_175 zm_X10_refuse (k_X10_refuse (d := d - 1) (by omega) gq1) (by omega) zb_67 (by rw [zk_67]; rfl) rfl rfl (Nat.le_of_ble_eq_true rfl) (Nat.le_refl _) rfl dX10_kitchen_38 ?_
  show J 41 [(0, .ref 67)] [.int q1.1] 117 zRF q1.2
  exact zv_retI X e rfl dX10_kitchen_41
set_option maxRecDepth 100000 in
set_option maxHeartbeats 4000000 in
theorem k_X10_kitchen_L52 {l : Launch} {D : va_G} {cy : Nat → ClassId} {S0 d : Nat} {J : zJ} (q : (Int32 × zHp)) (hd : 1 ≤ d) (X : zOK l D cy S0 d RX10 cX10_kitchen 6 (yX10_kitchen.name == "<init>") 117 117 (some .int) (zRT 117 zRF (some (.int q.1)) q.2) J) : ∀  (h : zHp), s_X10_kitchen_L52  h = some q → J 52 [(0, .ref 67)] [] 117 zRF h := by
  intro  h e
  unfold s_X10_kitchen_L52 at e
  refine zv_aload_n X dX10_kitchen_52 rfl rfl ?_
  refine zv_bipush (v := (-4 : Int32)) X dX10_kitchen_53 zbp_m4 ?_
  refine zb e (fun q1 gq1 e => ?_)
  refine zv_callV (stk := [.int (-4 : Int32), .ref 67]) (as := [.int (-4 : Int32)]) (st := []) (k := 67) X zl_RX10_175 zm_X10_refuse (k_X10_refuse (d := d - 1) (by omega) gq1) (by omega) zb_67 (by rw [zk_67]; rfl) rfl rfl (Nat.le_of_ble_eq_true rfl) (Nat.le_refl _) rfl dX10_kitchen_55 ?_
  show J 58 [(0, .ref 67)] [.int q1.1] 117 zRF q1.2
  exact zv_retI X e rfl dX10_kitchen_58
set_option maxRecDepth 100000 in
set_option maxHeartbeats 4000000 in
theorem k_X10_kitchen_L83 {l : Launch} {D : va_G} {cy : Nat → ClassId} {S0 d : Nat} {J : zJ} (q : (Int32 × zHp)) (hd : 1 ≤ d) (X : zOK l D cy S0 d RX10 cX10_kitchen 6 (yX10_kitchen.name == "<init>") 117 117 (some .int) (zRT 117 zRF (some (.int q.1)) q.2) J) : ∀  (h : zHp), s_X10_kitchen_L83  h = some q → J 83 [(0, .ref 67)] [] 117 zRF h := by
  intro  h e
  unfold s_X10_kitchen_L83 at e
  refine zv_aload_n X dX10_kitchen_83 rfl rfl ?_
  refine zv_bipush (v := (-6 : Int32)) X dX10_kitchen_84 zbp_m6 ?_
  refine zb e (fun q1 gq1 e => ?_)
  refine zv_callV (stk := [.int (-6 : Int32), .ref 67]) (as := [.int (-6 : Int32)]) (st := []) (k := 67) X zl_RX10_175 zm_X10_refuse (k_X10_refuse (d := d - 1) (by omega) gq1) (by omega) zb_67 (by rw [zk_67]; rfl) rfl rfl (Nat.le_of_ble_eq_true rfl) (Nat.le_refl _) rfl dX10_kitchen_86 ?_
  show J 89 [(0, .ref 67)] [.int q1.1] 117 zRF q1.2
  exact zv_retI X e rfl dX10_kitchen_89
set_option maxRecDepth 100000 in
set_option maxHeartbeats 4000000 in
theorem k_X10_kitchen {l : Launch} {D : va_G} {cy : Nat → ClassId} {S0 d : Nat} (hd : 1 ≤ d) {a1 : Int32} {a2 : Int32} {a3 : Int32} {a4 : Int32} {a5 : Int32} {h : zHp} {q : (Int32 × zHp)} (e : s_X10_kitchen a1 a2 a3 a4 a5 h = some q) : zCT l D cy S0 d yX10_kitchen cX10_kitchen 6 (some .int) [.ref 67, .int a1, .int a2, .int a3, .int a4, .int a5] 117 zRF h (some (.int q.1)) 117 zRF q.2 := by
  unfold s_X10_kitchen at e
  refine zCT_of RX10 rfl zm_X10_kitchen (Nat.le_refl _) (Nat.le_of_ble_eq_true rfl) (fun J X => ?_)
  show J 0 [(0, .ref 67), (1, .int a1), (2, .int a2), (3, .int a3), (4, .int a4), (5, .int a5)] [] 117 zRF h
  refine zv_iload_n X dX10_kitchen_0 rfl rfl ?_
  refine zv_iconst (v := (0 : Int32)) X dX10_kitchen_1 zic_0 ?_
  refine zv_iconst (v := (3 : Int32)) X dX10_kitchen_2 zic_3 ?_
  refine zb e (fun q1 gq1 e => ?_)
  refine zv_callS (stk := [.int (3 : Int32), .int (0 : Int32), .int a1]) (as := [.int a1, .int (0 : Int32), .int (3 : Int32)]) (st := []) X zl_RX10_168 zm_X10_in (k_X10_in (d := d - 1) (by omega) gq1) (by omega) rfl (Nat.le_of_ble_eq_true rfl) (Nat.le_refl _) rfl dX10_kitchen_3 ?_
  show J 6 [(0, .ref 67), (1, .int a1), (2, .int a2), (3, .int a3), (4, .int a4), (5, .int a5)] [.int q1.1] 117 zRF q1.2
  refine zv_if_ne (tgt := 16) X dX10_kitchen_6 (by decide) (fun c2 => ?_) (fun c2 => ?_)
  · replace e := zif e c2
    refine zv_iload_n X dX10_kitchen_16 rfl rfl ?_
    refine zv_iconst (v := (0 : Int32)) X dX10_kitchen_17 zic_0 ?_
    refine zv_iconst (v := (5 : Int32)) X dX10_kitchen_18 zic_5 ?_
    refine zb e (fun q3 gq3 e => ?_)
    refine zv_callS (stk := [.int (5 : Int32), .int (0 : Int32), .int a2]) (as := [.int a2, .int (0 : Int32), .int (5 : Int32)]) (st := []) X zl_RX10_168 zm_X10_in (k_X10_in (d := d - 1) (by omega) gq3) (by omega) rfl (Nat.le_of_ble_eq_true rfl) (Nat.le_refl _) rfl dX10_kitchen_19 ?_
    show J 22 [(0, .ref 67), (1, .int a1), (2, .int a2), (3, .int a3), (4, .int a4), (5, .int a5)] [.int q3.1] 117 zRF q3.2
    refine zv_if_eq (tgt := 36) X dX10_kitchen_22 (by decide) (fun c4 => ?_) (fun c4 => ?_)
    · replace e := zit e c4
      exact zv_pick X [0] rfl (k_X10_kitchen_L36 q hd X  _ e)
    · replace e := zif e c4
      refine zv_iload X dX10_kitchen_25 rfl ?_
      refine zv_iconst (v := (0 : Int32)) X dX10_kitchen_27 zic_0 ?_
      refine zv_bipush (v := (9 : Int32)) X dX10_kitchen_28 zbp_9 ?_
      refine zb e (fun q5 gq5 e => ?_)
      refine zv_callS (stk := [.int (9 : Int32), .int (0 : Int32), .int a4]) (as := [.int a4, .int (0 : Int32), .int (9 : Int32)]) (st := []) X zl_RX10_168 zm_X10_in (k_X10_in (d := d - 1) (by omega) gq5) (by omega) rfl (Nat.le_of_ble_eq_true rfl) (Nat.le_refl _) rfl dX10_kitchen_30 ?_
      show J 33 [(0, .ref 67), (1, .int a1), (2, .int a2), (3, .int a3), (4, .int a4), (5, .int a5)] [.int q5.1] 117 zRF q5.2
      refine zv_if_ne (tgt := 42) X dX10_kitchen_33 (by decide) (fun c6 => ?_) (fun c6 => ?_)
      · replace e := zif e c6
        refine zv_iload_n X dX10_kitchen_42 rfl rfl ?_
        refine zv_iconst (v := (1 : Int32)) X dX10_kitchen_43 zic_1 ?_
        refine zv_icmp_lt (tgt := 52) X dX10_kitchen_44 (by decide) (fun c7 => ?_) (fun c7 => ?_)
        · replace e := zit e c7
          exact zv_pick X [0] rfl (k_X10_kitchen_L52 q hd X  _ e)
        · replace e := zif e c7
          refine zv_iload X dX10_kitchen_47 rfl ?_
          refine zv_if_ge (tgt := 59) X dX10_kitchen_49 (by decide) (fun c8 => ?_) (fun c8 => ?_)
          · replace e := zit e c8
            refine zv_iload_n X dX10_kitchen_59 rfl rfl ?_
            refine zv_sipush (v := (999 : Int32)) X dX10_kitchen_60 zsp_999 ?_
            refine zv_icmp_gt (tgt := 83) X dX10_kitchen_63 (by decide) (fun c9 => ?_) (fun c9 => ?_)
            · replace e := zit e c9
              exact zv_pick X [0] rfl (k_X10_kitchen_L83 q hd X  _ e)
            · replace e := zif e c9
              refine zv_iload X dX10_kitchen_66 rfl ?_
              refine zv_sipush (v := (255 : Int32)) X dX10_kitchen_68 zsp_255 ?_
              refine zv_icmp_gt (tgt := 83) X dX10_kitchen_71 (by decide) (fun c10 => ?_) (fun c10 => ?_)
              · replace e := zit e c10
                exact zv_pick X [0] rfl (k_X10_kitchen_L83 q hd X  _ e)
              · replace e := zif e c10
                refine zv_aload_n X dX10_kitchen_74 rfl rfl ?_
                refine zv_getI X zf_RX10_165 zk_67 zb_67 dX10_kitchen_75 ?_
                refine zv_bipush (v := (20 : Int32)) X dX10_kitchen_78 zbp_20 ?_
                refine zv_icmp_ne (tgt := 90) X dX10_kitchen_80 (by decide) (fun c11 => ?_) (fun c11 => ?_)
                · replace e := zif e c11
                  refine zv_aload_n X dX10_kitchen_90 rfl rfl ?_
                  refine zv_getR X zf_RX10_28 znt_a zk_67 zb_67 zr_67_9 dX10_kitchen_91 ?_
                  refine zv_aload_n X dX10_kitchen_94 rfl rfl ?_
                  refine zv_getI X zf_RX10_165 zk_67 zb_67 dX10_kitchen_95 ?_
                  refine zv_iload_n X dX10_kitchen_98 rfl rfl ?_
                  refine zb e (fun h12 gh12 e => ?_)
                  refine zv_iast X zk_74 zl_74 zb_74 dX10_kitchen_99 gh12 ?_
                  refine zv_aload_n X dX10_kitchen_100 rfl rfl ?_
                  refine zv_getR X zf_RX10_31 znt_a zk_67 zb_67 zr_67_10 dX10_kitchen_101 ?_
                  refine zv_aload_n X dX10_kitchen_104 rfl rfl ?_
                  refine zv_getI X zf_RX10_165 zk_67 zb_67 dX10_kitchen_105 ?_
                  refine zv_iload_n X dX10_kitchen_108 rfl rfl ?_
                  refine zb e (fun h13 gh13 e => ?_)
                  refine zv_iast X zk_75 zl_75 zb_75 dX10_kitchen_109 gh13 ?_
                  refine zv_aload_n X dX10_kitchen_110 rfl rfl ?_
                  refine zv_getR X zf_RX10_34 znt_a zk_67 zb_67 zr_67_11 dX10_kitchen_111 ?_
                  refine zv_aload_n X dX10_kitchen_114 rfl rfl ?_
                  refine zv_getI X zf_RX10_165 zk_67 zb_67 dX10_kitchen_115 ?_
                  refine zv_iload_n X dX10_kitchen_118 rfl rfl ?_
                  refine zb e (fun h14 gh14 e => ?_)
                  refine zv_iast X zk_76 zl_76 zb_76 dX10_kitchen_119 gh14 ?_
                  refine zv_aload_n X dX10_kitchen_120 rfl rfl ?_
                  refine zv_getR X zf_RX10_37 znt_a zk_67 zb_67 zr_67_12 dX10_kitchen_121 ?_
                  refine zv_aload_n X dX10_kitchen_124 rfl rfl ?_
                  refine zv_getI X zf_RX10_165 zk_67 zb_67 dX10_kitchen_125 ?_
                  refine zv_iload X dX10_kitchen_128 rfl ?_
                  refine zb e (fun h15 gh15 e => ?_)
                  refine zv_iast X zk_77 zl_77 zb_77 dX10_kitchen_130 gh15 ?_
                  refine zv_aload_n X dX10_kitchen_131 rfl rfl ?_
                  refine zv_getR X zf_RX10_40 znt_a zk_67 zb_67 zr_67_13 dX10_kitchen_132 ?_
                  refine zv_aload_n X dX10_kitchen_135 rfl rfl ?_
                  refine zv_getI X zf_RX10_165 zk_67 zb_67 dX10_kitchen_136 ?_
                  refine zv_iload X dX10_kitchen_139 rfl ?_
                  refine zb e (fun h16 gh16 e => ?_)
                  refine zv_iast X zk_78 zl_78 zb_78 dX10_kitchen_141 gh16 ?_
                  refine zv_aload_n X dX10_kitchen_142 rfl rfl ?_
                  refine zv_dup_r X dX10_kitchen_143 ?_
                  refine zv_getI X zf_RX10_165 zk_67 zb_67 dX10_kitchen_144 ?_
                  refine zv_iconst (v := (1 : Int32)) X dX10_kitchen_147 zic_1 ?_
                  refine zv_iadd X dX10_kitchen_148 ?_
                  refine zb e (fun v17 gv17 e => ?_)
                  refine zv_nmI X gv17 ?_
                  refine zb e (fun h18 gh18 e => ?_)
                  refine zv_putI' X zf_RX10_165 zk_67 zb_67 dX10_kitchen_149 gh18 ?_
                  refine zv_aload_n X dX10_kitchen_152 rfl rfl ?_
                  refine zv_getI X zf_RX10_165 zk_67 zb_67 dX10_kitchen_153 ?_
                  refine zv_iconst (v := (1 : Int32)) X dX10_kitchen_156 zic_1 ?_
                  refine zv_isub X dX10_kitchen_157 ?_
                  exact zv_retI X e rfl dX10_kitchen_158
                · replace e := zit e c11
                  exact zv_pick X [0] rfl (k_X10_kitchen_L83 q hd X  _ e)
          · replace e := zif e c8
            exact zv_pick X [0] rfl (k_X10_kitchen_L52 q hd X  _ e)
      · replace e := zit e c6
        exact zv_pick X [0] rfl (k_X10_kitchen_L36 q hd X  _ e)
  · replace e := zit e c2
    refine zv_aload_n X dX10_kitchen_9 rfl rfl ?_
    refine zv_bipush (v := (-2 : Int32)) X dX10_kitchen_10 zbp_m2 ?_
    refine zb e (fun q19 gq19 e => ?_)
    refine zv_callV (stk := [.int (-2 : Int32), .ref 67]) (as := [.int (-2 : Int32)]) (st := []) (k := 67) X zl_RX10_175 zm_X10_refuse (k_X10_refuse (d := d - 1) (by omega) gq19) (by omega) zb_67 (by rw [zk_67]; rfl) rfl rfl (Nat.le_of_ble_eq_true rfl) (Nat.le_refl _) rfl dX10_kitchen_12 ?_
    show J 15 [(0, .ref 67), (1, .int a1), (2, .int a2), (3, .int a3), (4, .int a4), (5, .int a5)] [.int q19.1] 117 zRF q19.2
    exact zv_retI X e rfl dX10_kitchen_15
-- X4_has
def s_X4_has_L17 (b0 : Int32) (h : zHp) : Option (Int32 × zHp) :=
  (zbo b0).bind fun u1 =>
  some (b0, h)
def s_X4_has_L16  (h : zHp) : Option (Int32 × zHp) :=
  s_X4_has_L17 (0 : Int32) h
def s_X4_has (a1 : Int32) (h : zHp) : Option (Int32 × zHp) :=
  if a1 < 0 then
    s_X4_has_L16 h
  else
    if (h.1 13 10) ≤ a1 then
      s_X4_has_L16 h
    else
      s_X4_has_L17 (1 : Int32) h
set_option maxRecDepth 100000 in
set_option maxHeartbeats 4000000 in
theorem k_X4_has_L17 {l : Launch} {D : va_G} {cy : Nat → ClassId} {S0 d : Nat} {J : zJ} (q : (Int32 × zHp)) (hd : 0 ≤ d) (X : zOK l D cy S0 d RX4 cX4_has 2 (yX4_has.name == "<init>") 117 117 (some .boolean) (zRT 117 zRF (some (.int q.1)) q.2) J) : ∀ (b0 : Int32) (h : zHp), s_X4_has_L17 b0 h = some q → J 17 [] [.int b0] 117 zRF h := by
  intro b0 h e
  unfold s_X4_has_L17 at e
  refine zb e (fun u gu e => ?_)
  exact zv_retZ X e rfl (zbo_ok gu) dX4_has_17
set_option maxRecDepth 100000 in
set_option maxHeartbeats 4000000 in
theorem k_X4_has_L16 {l : Launch} {D : va_G} {cy : Nat → ClassId} {S0 d : Nat} {J : zJ} (q : (Int32 × zHp)) (hd : 0 ≤ d) (X : zOK l D cy S0 d RX4 cX4_has 2 (yX4_has.name == "<init>") 117 117 (some .boolean) (zRT 117 zRF (some (.int q.1)) q.2) J) : ∀  (h : zHp), s_X4_has_L16  h = some q → J 16 [] [] 117 zRF h := by
  intro  h e
  unfold s_X4_has_L16 at e
  refine zv_iconst (v := (0 : Int32)) X dX4_has_16 zic_0 ?_
  exact k_X4_has_L17 q hd X _ _ e
set_option maxRecDepth 100000 in
set_option maxHeartbeats 4000000 in
theorem k_X4_has {l : Launch} {D : va_G} {cy : Nat → ClassId} {S0 d : Nat} (hd : 0 ≤ d) {a1 : Int32} {h : zHp} {q : (Int32 × zHp)} (e : s_X4_has a1 h = some q) : zCT l D cy S0 d yX4_has cX4_has 2 (some .boolean) [.ref 13, .int a1] 117 zRF h (some (.int q.1)) 117 zRF q.2 := by
  unfold s_X4_has at e
  refine zCT_of RX4 rfl zm_X4_has (Nat.le_refl _) (Nat.le_of_ble_eq_true rfl) (fun J X => ?_)
  show J 0 [(0, .ref 13), (1, .int a1)] [] 117 zRF h
  refine zv_iload_n X dX4_has_0 rfl rfl ?_
  refine zv_if_lt (tgt := 16) X dX4_has_1 (by decide) (fun c1 => ?_) (fun c1 => ?_)
  · replace e := zit e c1
    exact zv_pick X [] rfl (k_X4_has_L16 q hd X  _ e)
  · replace e := zif e c1
    refine zv_iload_n X dX4_has_4 rfl rfl ?_
    refine zv_aload_n X dX4_has_5 rfl rfl ?_
    refine zv_getI X zf_RX4_43 zk_13 zb_13 dX4_has_6 ?_
    refine zv_icmp_ge (tgt := 16) X dX4_has_9 (by decide) (fun c2 => ?_) (fun c2 => ?_)
    · replace e := zit e c2
      exact zv_pick X [] rfl (k_X4_has_L16 q hd X  _ e)
    · replace e := zif e c2
      refine zv_iconst (v := (1 : Int32)) X dX4_has_12 zic_1 ?_
      refine zv_goto (tgt := 17) X dX4_has_13 (by decide) ?_
      exact zv_pick X [] rfl (k_X4_has_L17 q hd X _ _ e)
-- X4_isHard
def s_X4_isHard (a1 : Int32) (h : zHp) : Option (Int32 × zHp) :=
  (zri h 20 20 a1).bind fun v1 =>
  (zbo v1).bind fun u2 =>
  some (v1, h)
set_option maxRecDepth 100000 in
set_option maxHeartbeats 4000000 in
theorem k_X4_isHard {l : Launch} {D : va_G} {cy : Nat → ClassId} {S0 d : Nat} (hd : 0 ≤ d) {a1 : Int32} {h : zHp} {q : (Int32 × zHp)} (e : s_X4_isHard a1 h = some q) : zCT l D cy S0 d yX4_isHard cX4_isHard 2 (some .boolean) [.ref 13, .int a1] 117 zRF h (some (.int q.1)) 117 zRF q.2 := by
  unfold s_X4_isHard at e
  refine zCT_of RX4 rfl zm_X4_isHard (Nat.le_refl _) (Nat.le_of_ble_eq_true rfl) (fun J X => ?_)
  show J 0 [(0, .ref 13), (1, .int a1)] [] 117 zRF h
  refine zv_aload_n X dX4_isHard_0 rfl rfl ?_
  refine zv_getR X zf_RX4_30 znt_a zk_13 zb_13 zr_13_6 dX4_isHard_1 ?_
  refine zv_iload_n X dX4_isHard_4 rfl rfl ?_
  refine zb e (fun v1 gv1 e => ?_)
  refine zv_zald X zk_20 zl_20 zb_20 dX4_isHard_5 gv1 ?_
  refine zb e (fun u gu e => ?_)
  exact zv_retZ X e rfl (zbo_ok gu) dX4_isHard_6
-- X4_changeHard
def s_X4_changeHard (a1 : Int32) (a2 : Int32) (h : zHp) : Option zHp :=
  (zui h 20 20 a1 (vp_nar .boolean a2)).bind fun h1 =>
  some h1
set_option maxRecDepth 100000 in
set_option maxHeartbeats 4000000 in
theorem k_X4_changeHard {l : Launch} {D : va_G} {cy : Nat → ClassId} {S0 d : Nat} (hd : 0 ≤ d) {a1 : Int32} {a2 : Int32} {h : zHp} {q : zHp} (e : s_X4_changeHard a1 a2 h = some q) : zCT l D cy S0 d yX4_changeHard cX4_changeHard 3 none [.ref 13, .int a1, .int a2] 117 zRF h none 117 zRF q := by
  unfold s_X4_changeHard at e
  refine zCT_of RX4 rfl zm_X4_changeHard (Nat.le_refl _) (Nat.le_of_ble_eq_true rfl) (fun J X => ?_)
  show J 0 [(0, .ref 13), (1, .int a1), (2, .int a2)] [] 117 zRF h
  refine zv_aload_n X dX4_changeHard_0 rfl rfl ?_
  refine zv_getR X zf_RX4_30 znt_a zk_13 zb_13 zr_13_6 dX4_changeHard_1 ?_
  refine zv_iload_n X dX4_changeHard_4 rfl rfl ?_
  refine zv_iload_n X dX4_changeHard_5 rfl rfl ?_
  refine zb e (fun h1 gh1 e => ?_)
  refine zv_zast X zk_20 zl_20 zb_20 dX4_changeHard_6 gh1 ?_
  exact zv_retV X e rfl dX4_changeHard_7
-- X9_hard
def s_X9_hard (a1 : Int32) (a2 : Int32) (h : zHp) : Option (Int32 × zHp) :=
  (s_X4_has a1 h).bind fun q1 =>
  if q1.1 = 0 then
    (s_X9_refused (-1 : Int32) q1.2).bind fun q6 =>
    some (q6.1, q6.2)
  else
    (s_X4_isHard a1 q1.2).bind fun q3 =>
    if q3.1 = a2 then
      some ((0 : Int32), q3.2)
    else
      (s_X4_changeHard a1 a2 q3.2).bind fun q5 =>
      some ((1 : Int32), q5)
set_option maxRecDepth 100000 in
set_option maxHeartbeats 4000000 in
theorem k_X9_hard {l : Launch} {D : va_G} {cy : Nat → ClassId} {S0 d : Nat} (hd : 1 ≤ d) {a1 : Int32} {a2 : Int32} {h : zHp} {q : (Int32 × zHp)} (e : s_X9_hard a1 a2 h = some q) : zCT l D cy S0 d yX9_hard cX9_hard 3 (some .int) [.ref 0, .int a1, .int a2] 117 zRF h (some (.int q.1)) 117 zRF q.2 := by
  unfold s_X9_hard at e
  refine zCT_of RX9 rfl zm_X9_hard (Nat.le_refl _) (Nat.le_of_ble_eq_true rfl) (fun J X => ?_)
  show J 0 [(0, .ref 0), (1, .int a1), (2, .int a2)] [] 117 zRF h
  refine zv_aload_n X dX9_hard_0 rfl rfl ?_
  refine zv_getR X zf_RX9_36 znt_o zk_0 zb_0 zr_0_6 dX9_hard_1 ?_
  refine zv_iload_n X dX9_hard_4 rfl rfl ?_
  refine zb e (fun q1 gq1 e => ?_)
  refine zv_callV (stk := [.int a1, .ref 13]) (as := [.int a1]) (st := []) (k := 13) X zl_RX9_146 zm_X4_has (k_X4_has (d := d - 1) (by omega) gq1) (by omega) zb_13 (by rw [zk_13]; rfl) rfl rfl (Nat.le_of_ble_eq_true rfl) (Nat.le_refl _) rfl dX9_hard_5 ?_
  show J 8 [(0, .ref 0), (1, .int a1), (2, .int a2)] [.int q1.1] 117 zRF q1.2
  refine zv_if_ne (tgt := 17) X dX9_hard_8 (by decide) (fun c2 => ?_) (fun c2 => ?_)
  · replace e := zif e c2
    refine zv_aload_n X dX9_hard_17 rfl rfl ?_
    refine zv_getR X zf_RX9_36 znt_o zk_0 zb_0 zr_0_6 dX9_hard_18 ?_
    refine zv_iload_n X dX9_hard_21 rfl rfl ?_
    refine zb e (fun q3 gq3 e => ?_)
    refine zv_callV (stk := [.int a1, .ref 13]) (as := [.int a1]) (st := []) (k := 13) X zl_RX9_147 zm_X4_isHard (k_X4_isHard (d := d - 1) (by omega) gq3) (by omega) zb_13 (by rw [zk_13]; rfl) rfl rfl (Nat.le_of_ble_eq_true rfl) (Nat.le_refl _) rfl dX9_hard_22 ?_
    show J 25 [(0, .ref 0), (1, .int a1), (2, .int a2)] [.int q3.1] 117 zRF q3.2
    refine zv_iload_n X dX9_hard_25 rfl rfl ?_
    refine zv_icmp_ne (tgt := 31) X dX9_hard_26 (by decide) (fun c4 => ?_) (fun c4 => ?_)
    · replace e := zif e c4
      refine zv_aload_n X dX9_hard_31 rfl rfl ?_
      refine zv_getR X zf_RX9_36 znt_o zk_0 zb_0 zr_0_6 dX9_hard_32 ?_
      refine zv_iload_n X dX9_hard_35 rfl rfl ?_
      refine zv_iload_n X dX9_hard_36 rfl rfl ?_
      refine zb e (fun q5 gq5 e => ?_)
      refine zv_callV (stk := [.int a2, .int a1, .ref 13]) (as := [.int a1, .int a2]) (st := []) (k := 13) X zl_RX9_150 zm_X4_changeHard (k_X4_changeHard (d := d - 1) (by omega) gq5) (by omega) zb_13 (by rw [zk_13]; rfl) rfl rfl (Nat.le_of_ble_eq_true rfl) (Nat.le_refl _) rfl dX9_hard_37 ?_
      show J 40 [(0, .ref 0), (1, .int a1), (2, .int a2)] [] 117 zRF q5
      refine zv_iconst (v := (1 : Int32)) X dX9_hard_40 zic_1 ?_
      exact zv_retI X e rfl dX9_hard_41
    · replace e := zit e c4
      refine zv_iconst (v := (0 : Int32)) X dX9_hard_29 zic_0 ?_
      exact zv_retI X e rfl dX9_hard_30
  · replace e := zit e c2
    refine zv_aload_n X dX9_hard_11 rfl rfl ?_
    refine zv_iconst (v := (-1 : Int32)) X dX9_hard_12 zic_m1 ?_
    refine zb e (fun q6 gq6 e => ?_)
    refine zv_callV (stk := [.int (-1 : Int32), .ref 0]) (as := [.int (-1 : Int32)]) (st := []) (k := 0) X zl_RX9_108 zm_X9_refused (k_X9_refused (d := d - 1) (by omega) gq6) (by omega) zb_0 (by rw [zk_0]; rfl) rfl rfl (Nat.le_of_ble_eq_true rfl) (Nat.le_refl _) rfl dX9_hard_13 ?_
    show J 16 [(0, .ref 0), (1, .int a1), (2, .int a2)] [.int q6.1] 117 zRF q6.2
    exact zv_retI X e rfl dX9_hard_16
-- X10_isKitchen
def s_X10_isKitchen (a1 : Int32) (h : zHp) : Option (Int32 × zHp) :=
  (s_X10_in a1 (0 : Int32) ((h.1 67 8) - (1 : Int32)) h).bind fun q1 =>
  (zbo q1.1).bind fun u2 =>
  some (q1.1, q1.2)
set_option maxRecDepth 100000 in
set_option maxHeartbeats 4000000 in
theorem k_X10_isKitchen {l : Launch} {D : va_G} {cy : Nat → ClassId} {S0 d : Nat} (hd : 1 ≤ d) {a1 : Int32} {h : zHp} {q : (Int32 × zHp)} (e : s_X10_isKitchen a1 h = some q) : zCT l D cy S0 d yX10_isKitchen cX10_isKitchen 2 (some .boolean) [.ref 67, .int a1] 117 zRF h (some (.int q.1)) 117 zRF q.2 := by
  unfold s_X10_isKitchen at e
  refine zCT_of RX10 rfl zm_X10_isKitchen (Nat.le_refl _) (Nat.le_of_ble_eq_true rfl) (fun J X => ?_)
  show J 0 [(0, .ref 67), (1, .int a1)] [] 117 zRF h
  refine zv_iload_n X dX10_isKitchen_0 rfl rfl ?_
  refine zv_iconst (v := (0 : Int32)) X dX10_isKitchen_1 zic_0 ?_
  refine zv_aload_n X dX10_isKitchen_2 rfl rfl ?_
  refine zv_getI X zf_RX10_165 zk_67 zb_67 dX10_isKitchen_3 ?_
  refine zv_iconst (v := (1 : Int32)) X dX10_isKitchen_6 zic_1 ?_
  refine zv_isub X dX10_isKitchen_7 ?_
  refine zb e (fun q1 gq1 e => ?_)
  refine zv_callS (stk := [.int ((h.1 67 8) - (1 : Int32)), .int (0 : Int32), .int a1]) (as := [.int a1, .int (0 : Int32), .int ((h.1 67 8) - (1 : Int32))]) (st := []) X zl_RX10_168 zm_X10_in (k_X10_in (d := d - 1) (by omega) gq1) (by omega) rfl (Nat.le_of_ble_eq_true rfl) (Nat.le_refl _) rfl dX10_isKitchen_8 ?_
  show J 11 [(0, .ref 67), (1, .int a1)] [.int q1.1] 117 zRF q1.2
  refine zb e (fun u gu e => ?_)
  exact zv_retZ X e rfl (zbo_ok gu) dX10_isKitchen_11
-- X10_hard
def s_X10_hard_L38 (b0 : Int32) (h : zHp) : Option (Int32 × zHp) :=
  some (b0, h)
def s_X10_hard (a1 : Int32) (a2 : Int32) (h : zHp) : Option (Int32 × zHp) :=
  (s_X10_isKitchen a1 h).bind fun q1 =>
  if q1.1 = 0 then
    (s_X10_refuse (-1 : Int32) q1.2).bind fun q6 =>
    some (q6.1, q6.2)
  else
    (zri q1.2 79 20 a1).bind fun v3 =>
    (zui q1.2 79 20 a1 (vp_nar .boolean a2)).bind fun h4 =>
    if v3 = a2 then
      s_X10_hard_L38 (0 : Int32) h4
    else
      s_X10_hard_L38 (1 : Int32) h4
set_option maxRecDepth 100000 in
set_option maxHeartbeats 4000000 in
theorem k_X10_hard_L38 {l : Launch} {D : va_G} {cy : Nat → ClassId} {S0 d : Nat} {J : zJ} (q : (Int32 × zHp)) (hd : 2 ≤ d) (X : zOK l D cy S0 d RX10 cX10_hard 4 (yX10_hard.name == "<init>") 117 117 (some .int) (zRT 117 zRF (some (.int q.1)) q.2) J) : ∀ (b0 : Int32) (h : zHp), s_X10_hard_L38 b0 h = some q → J 38 [] [.int b0] 117 zRF h := by
  intro b0 h e
  unfold s_X10_hard_L38 at e
  exact zv_retI X e rfl dX10_hard_38
set_option maxRecDepth 100000 in
set_option maxHeartbeats 4000000 in
theorem k_X10_hard {l : Launch} {D : va_G} {cy : Nat → ClassId} {S0 d : Nat} (hd : 2 ≤ d) {a1 : Int32} {a2 : Int32} {h : zHp} {q : (Int32 × zHp)} (e : s_X10_hard a1 a2 h = some q) : zCT l D cy S0 d yX10_hard cX10_hard 4 (some .int) [.ref 67, .int a1, .int a2] 117 zRF h (some (.int q.1)) 117 zRF q.2 := by
  unfold s_X10_hard at e
  refine zCT_of RX10 rfl zm_X10_hard (Nat.le_refl _) (Nat.le_of_ble_eq_true rfl) (fun J X => ?_)
  show J 0 [(0, .ref 67), (1, .int a1), (2, .int a2)] [] 117 zRF h
  refine zv_aload_n X dX10_hard_0 rfl rfl ?_
  refine zv_iload_n X dX10_hard_1 rfl rfl ?_
  refine zb e (fun q1 gq1 e => ?_)
  refine zv_callV (stk := [.int a1, .ref 67]) (as := [.int a1]) (st := []) (k := 67) X zl_RX10_196 zm_X10_isKitchen (k_X10_isKitchen (d := d - 1) (by omega) gq1) (by omega) zb_67 (by rw [zk_67]; rfl) rfl rfl (Nat.le_of_ble_eq_true rfl) (Nat.le_refl _) rfl dX10_hard_2 ?_
  show J 5 [(0, .ref 67), (1, .int a1), (2, .int a2)] [.int q1.1] 117 zRF q1.2
  refine zv_if_ne (tgt := 14) X dX10_hard_5 (by decide) (fun c2 => ?_) (fun c2 => ?_)
  · replace e := zif e c2
    refine zv_aload_n X dX10_hard_14 rfl rfl ?_
    refine zv_getR X zf_RX10_43 znt_a zk_67 zb_67 zr_67_14 dX10_hard_15 ?_
    refine zv_iload_n X dX10_hard_18 rfl rfl ?_
    refine zb e (fun v3 gv3 e => ?_)
    refine zv_zald X zk_79 zl_79 zb_79 dX10_hard_19 gv3 ?_
    refine zv_istore_n (i := 3) (lv' := [(3, .int v3), (0, .ref 67), (1, .int a1), (2, .int a2)]) X dX10_hard_20 rfl (Nat.le_of_ble_eq_true rfl) rfl ?_
    refine zv_aload_n X dX10_hard_21 rfl rfl ?_
    refine zv_getR X zf_RX10_43 znt_a zk_67 zb_67 zr_67_14 dX10_hard_22 ?_
    refine zv_iload_n X dX10_hard_25 rfl rfl ?_
    refine zv_iload_n X dX10_hard_26 rfl rfl ?_
    refine zb e (fun h4 gh4 e => ?_)
    refine zv_zast X zk_79 zl_79 zb_79 dX10_hard_27 gh4 ?_
    refine zv_iload_n X dX10_hard_28 rfl rfl ?_
    refine zv_iload_n X dX10_hard_29 rfl rfl ?_
    refine zv_icmp_ne (tgt := 37) X dX10_hard_30 (by decide) (fun c5 => ?_) (fun c5 => ?_)
    · replace e := zif e c5
      refine zv_iconst (v := (1 : Int32)) X dX10_hard_37 zic_1 ?_
      exact zv_pick X [] rfl (k_X10_hard_L38 q hd X _ _ e)
    · replace e := zit e c5
      refine zv_iconst (v := (0 : Int32)) X dX10_hard_33 zic_0 ?_
      refine zv_goto (tgt := 38) X dX10_hard_34 (by decide) ?_
      exact zv_pick X [] rfl (k_X10_hard_L38 q hd X _ _ e)
  · replace e := zit e c2
    refine zv_aload_n X dX10_hard_8 rfl rfl ?_
    refine zv_iconst (v := (-1 : Int32)) X dX10_hard_9 zic_m1 ?_
    refine zb e (fun q6 gq6 e => ?_)
    refine zv_callV (stk := [.int (-1 : Int32), .ref 67]) (as := [.int (-1 : Int32)]) (st := []) (k := 67) X zl_RX10_175 zm_X10_refuse (k_X10_refuse (d := d - 1) (by omega) gq6) (by omega) zb_67 (by rw [zk_67]; rfl) rfl rfl (Nat.le_of_ble_eq_true rfl) (Nat.le_refl _) rfl dX10_hard_10 ?_
    show J 13 [(0, .ref 67), (1, .int a1), (2, .int a2)] [.int q6.1] 117 zRF q6.2
    exact zv_retI X e rfl dX10_hard_13
-- X9_isKin
def s_X9_isKin (a1 : Int32) (a2 : Int32) (h : zHp) : Option (Int32 × zHp) :=
  (zri h 2 50 ((a1 * (10 : Int32)) + a2)).bind fun v1 =>
  (zbo v1).bind fun u2 =>
  some (v1, h)
set_option maxRecDepth 100000 in
set_option maxHeartbeats 4000000 in
theorem k_X9_isKin {l : Launch} {D : va_G} {cy : Nat → ClassId} {S0 d : Nat} (hd : 0 ≤ d) {a1 : Int32} {a2 : Int32} {h : zHp} {q : (Int32 × zHp)} (e : s_X9_isKin a1 a2 h = some q) : zCT l D cy S0 d yX9_isKin cX9_isKin 3 (some .boolean) [.ref 0, .int a1, .int a2] 117 zRF h (some (.int q.1)) 117 zRF q.2 := by
  unfold s_X9_isKin at e
  refine zCT_of RX9 rfl zm_X9_isKin (Nat.le_refl _) (Nat.le_of_ble_eq_true rfl) (fun J X => ?_)
  show J 0 [(0, .ref 0), (1, .int a1), (2, .int a2)] [] 117 zRF h
  refine zv_aload_n X dX9_isKin_0 rfl rfl ?_
  refine zv_getR X zf_RX9_13 znt_a zk_0 zb_0 zr_0_1 dX9_isKin_1 ?_
  refine zv_iload_n X dX9_isKin_4 rfl rfl ?_
  refine zv_bipush (v := (10 : Int32)) X dX9_isKin_5 zbp_10 ?_
  refine zv_imul X dX9_isKin_7 ?_
  refine zv_iload_n X dX9_isKin_8 rfl rfl ?_
  refine zv_iadd X dX9_isKin_9 ?_
  refine zb e (fun v1 gv1 e => ?_)
  refine zv_zald X zk_2 zl_2 zb_2 dX9_isKin_10 gv1 ?_
  refine zb e (fun u gu e => ?_)
  exact zv_retZ X e rfl (zbo_ok gu) dX9_isKin_11
-- X9_kin
def s_X9_kin_L17  (h : zHp) : Option (Int32 × zHp) :=
  (s_X9_refused (-1 : Int32) h).bind fun q1 =>
  some (q1.1, q1.2)
def s_X9_kin (a1 : Int32) (a2 : Int32) (a3 : Int32) (h : zHp) : Option (Int32 × zHp) :=
  (s_X9_isWithin a1 (5 : Int32) h).bind fun q1 =>
  if q1.1 = 0 then
    s_X9_kin_L17 q1.2
  else
    (s_X9_isWithin a2 (10 : Int32) q1.2).bind fun q3 =>
    if q3.1 = 0 then
      s_X9_kin_L17 q3.2
    else
      (s_X9_isKin a1 a2 q3.2).bind fun q5 =>
      if q5.1 = a3 then
        some ((0 : Int32), q5.2)
      else
        (zui q5.2 2 50 ((a1 * (10 : Int32)) + a2) (vp_nar .boolean a3)).bind fun h7 =>
        some ((1 : Int32), h7)
set_option maxRecDepth 100000 in
set_option maxHeartbeats 4000000 in
theorem k_X9_kin_L17 {l : Launch} {D : va_G} {cy : Nat → ClassId} {S0 d : Nat} {J : zJ} (q : (Int32 × zHp)) (hd : 1 ≤ d) (X : zOK l D cy S0 d RX9 cX9_kin 4 (yX9_kin.name == "<init>") 117 117 (some .int) (zRT 117 zRF (some (.int q.1)) q.2) J) : ∀  (h : zHp), s_X9_kin_L17  h = some q → J 17 [(0, .ref 0)] [] 117 zRF h := by
  intro  h e
  unfold s_X9_kin_L17 at e
  refine zv_aload_n X dX9_kin_17 rfl rfl ?_
  refine zv_iconst (v := (-1 : Int32)) X dX9_kin_18 zic_m1 ?_
  refine zb e (fun q1 gq1 e => ?_)
  refine zv_callV (stk := [.int (-1 : Int32), .ref 0]) (as := [.int (-1 : Int32)]) (st := []) (k := 0) X zl_RX9_108 zm_X9_refused (k_X9_refused (d := d - 1) (by omega) gq1) (by omega) zb_0 (by rw [zk_0]; rfl) rfl rfl (Nat.le_of_ble_eq_true rfl) (Nat.le_refl _) rfl dX9_kin_19 ?_
  show J 22 [(0, .ref 0)] [.int q1.1] 117 zRF q1.2
  exact zv_retI X e rfl dX9_kin_22
set_option maxRecDepth 100000 in
set_option maxHeartbeats 4000000 in
theorem k_X9_kin {l : Launch} {D : va_G} {cy : Nat → ClassId} {S0 d : Nat} (hd : 1 ≤ d) {a1 : Int32} {a2 : Int32} {a3 : Int32} {h : zHp} {q : (Int32 × zHp)} (e : s_X9_kin a1 a2 a3 h = some q) : zCT l D cy S0 d yX9_kin cX9_kin 4 (some .int) [.ref 0, .int a1, .int a2, .int a3] 117 zRF h (some (.int q.1)) 117 zRF q.2 := by
  unfold s_X9_kin at e
  refine zCT_of RX9 rfl zm_X9_kin (Nat.le_refl _) (Nat.le_of_ble_eq_true rfl) (fun J X => ?_)
  show J 0 [(0, .ref 0), (1, .int a1), (2, .int a2), (3, .int a3)] [] 117 zRF h
  refine zv_iload_n X dX9_kin_0 rfl rfl ?_
  refine zv_iconst (v := (5 : Int32)) X dX9_kin_1 zic_5 ?_
  refine zb e (fun q1 gq1 e => ?_)
  refine zv_callS (stk := [.int (5 : Int32), .int a1]) (as := [.int a1, .int (5 : Int32)]) (st := []) X zl_RX9_112 zm_X9_isWithin (k_X9_isWithin (d := d - 1) (by omega) gq1) (by omega) rfl (Nat.le_of_ble_eq_true rfl) (Nat.le_refl _) rfl dX9_kin_2 ?_
  show J 5 [(0, .ref 0), (1, .int a1), (2, .int a2), (3, .int a3)] [.int q1.1] 117 zRF q1.2
  refine zv_if_eq (tgt := 17) X dX9_kin_5 (by decide) (fun c2 => ?_) (fun c2 => ?_)
  · replace e := zit e c2
    exact zv_pick X [0] rfl (k_X9_kin_L17 q hd X  _ e)
  · replace e := zif e c2
    refine zv_iload_n X dX9_kin_8 rfl rfl ?_
    refine zv_bipush (v := (10 : Int32)) X dX9_kin_9 zbp_10 ?_
    refine zb e (fun q3 gq3 e => ?_)
    refine zv_callS (stk := [.int (10 : Int32), .int a2]) (as := [.int a2, .int (10 : Int32)]) (st := []) X zl_RX9_112 zm_X9_isWithin (k_X9_isWithin (d := d - 1) (by omega) gq3) (by omega) rfl (Nat.le_of_ble_eq_true rfl) (Nat.le_refl _) rfl dX9_kin_11 ?_
    show J 14 [(0, .ref 0), (1, .int a1), (2, .int a2), (3, .int a3)] [.int q3.1] 117 zRF q3.2
    refine zv_if_ne (tgt := 23) X dX9_kin_14 (by decide) (fun c4 => ?_) (fun c4 => ?_)
    · replace e := zif e c4
      refine zv_aload_n X dX9_kin_23 rfl rfl ?_
      refine zv_iload_n X dX9_kin_24 rfl rfl ?_
      refine zv_iload_n X dX9_kin_25 rfl rfl ?_
      refine zb e (fun q5 gq5 e => ?_)
      refine zv_callV (stk := [.int a2, .int a1, .ref 0]) (as := [.int a1, .int a2]) (st := []) (k := 0) X zl_RX9_154 zm_X9_isKin (k_X9_isKin (d := d - 1) (by omega) gq5) (by omega) zb_0 (by rw [zk_0]; rfl) rfl rfl (Nat.le_of_ble_eq_true rfl) (Nat.le_refl _) rfl dX9_kin_26 ?_
      show J 29 [(0, .ref 0), (1, .int a1), (2, .int a2), (3, .int a3)] [.int q5.1] 117 zRF q5.2
      refine zv_iload_n X dX9_kin_29 rfl rfl ?_
      refine zv_icmp_ne (tgt := 35) X dX9_kin_30 (by decide) (fun c6 => ?_) (fun c6 => ?_)
      · replace e := zif e c6
        refine zv_aload_n X dX9_kin_35 rfl rfl ?_
        refine zv_getR X zf_RX9_13 znt_a zk_0 zb_0 zr_0_1 dX9_kin_36 ?_
        refine zv_iload_n X dX9_kin_39 rfl rfl ?_
        refine zv_bipush (v := (10 : Int32)) X dX9_kin_40 zbp_10 ?_
        refine zv_imul X dX9_kin_42 ?_
        refine zv_iload_n X dX9_kin_43 rfl rfl ?_
        refine zv_iadd X dX9_kin_44 ?_
        refine zv_iload_n X dX9_kin_45 rfl rfl ?_
        refine zb e (fun h7 gh7 e => ?_)
        refine zv_zast X zk_2 zl_2 zb_2 dX9_kin_46 gh7 ?_
        refine zv_iconst (v := (1 : Int32)) X dX9_kin_47 zic_1 ?_
        exact zv_retI X e rfl dX9_kin_48
      · replace e := zit e c6
        refine zv_iconst (v := (0 : Int32)) X dX9_kin_33 zic_0 ?_
        exact zv_retI X e rfl dX9_kin_34
    · replace e := zit e c4
      exact zv_pick X [0] rfl (k_X9_kin_L17 q hd X  _ e)
-- X10_kin
def s_X10_kin_L19  (h : zHp) : Option (Int32 × zHp) :=
  (s_X10_refuse (-1 : Int32) h).bind fun q1 =>
  some (q1.1, q1.2)
def s_X10_kin_L61 (b0 : Int32) (h : zHp) : Option (Int32 × zHp) :=
  some (b0, h)
def s_X10_kin (a1 : Int32) (a2 : Int32) (a3 : Int32) (h : zHp) : Option (Int32 × zHp) :=
  (s_X10_in a1 (0 : Int32) (4 : Int32) h).bind fun q1 =>
  if q1.1 = 0 then
    s_X10_kin_L19 q1.2
  else
    (s_X10_in a2 (0 : Int32) (9 : Int32) q1.2).bind fun q3 =>
    if q3.1 = 0 then
      s_X10_kin_L19 q3.2
    else
      (zri q3.2 81 50 (((10 : Int32) * a1) + a2)).bind fun v5 =>
      (zui q3.2 81 50 (((10 : Int32) * a1) + a2) (vp_nar .boolean a3)).bind fun h6 =>
      if v5 = a3 then
        s_X10_kin_L61 (0 : Int32) h6
      else
        s_X10_kin_L61 (1 : Int32) h6
set_option maxRecDepth 100000 in
set_option maxHeartbeats 4000000 in
theorem k_X10_kin_L19 {l : Launch} {D : va_G} {cy : Nat → ClassId} {S0 d : Nat} {J : zJ} (q : (Int32 × zHp)) (hd : 1 ≤ d) (X : zOK l D cy S0 d RX10 cX10_kin 5 (yX10_kin.name == "<init>") 117 117 (some .int) (zRT 117 zRF (some (.int q.1)) q.2) J) : ∀  (h : zHp), s_X10_kin_L19  h = some q → J 19 [(0, .ref 67)] [] 117 zRF h := by
  intro  h e
  unfold s_X10_kin_L19 at e
  refine zv_aload_n X dX10_kin_19 rfl rfl ?_
  refine zv_iconst (v := (-1 : Int32)) X dX10_kin_20 zic_m1 ?_
  refine zb e (fun q1 gq1 e => ?_)
  refine zv_callV (stk := [.int (-1 : Int32), .ref 67]) (as := [.int (-1 : Int32)]) (st := []) (k := 67) X zl_RX10_175 zm_X10_refuse (k_X10_refuse (d := d - 1) (by omega) gq1) (by omega) zb_67 (by rw [zk_67]; rfl) rfl rfl (Nat.le_of_ble_eq_true rfl) (Nat.le_refl _) rfl dX10_kin_21 ?_
  show J 24 [(0, .ref 67)] [.int q1.1] 117 zRF q1.2
  exact zv_retI X e rfl dX10_kin_24
set_option maxRecDepth 100000 in
set_option maxHeartbeats 4000000 in
theorem k_X10_kin_L61 {l : Launch} {D : va_G} {cy : Nat → ClassId} {S0 d : Nat} {J : zJ} (q : (Int32 × zHp)) (hd : 1 ≤ d) (X : zOK l D cy S0 d RX10 cX10_kin 5 (yX10_kin.name == "<init>") 117 117 (some .int) (zRT 117 zRF (some (.int q.1)) q.2) J) : ∀ (b0 : Int32) (h : zHp), s_X10_kin_L61 b0 h = some q → J 61 [] [.int b0] 117 zRF h := by
  intro b0 h e
  unfold s_X10_kin_L61 at e
  exact zv_retI X e rfl dX10_kin_61
set_option maxRecDepth 100000 in
set_option maxHeartbeats 4000000 in
theorem k_X10_kin {l : Launch} {D : va_G} {cy : Nat → ClassId} {S0 d : Nat} (hd : 1 ≤ d) {a1 : Int32} {a2 : Int32} {a3 : Int32} {h : zHp} {q : (Int32 × zHp)} (e : s_X10_kin a1 a2 a3 h = some q) : zCT l D cy S0 d yX10_kin cX10_kin 5 (some .int) [.ref 67, .int a1, .int a2, .int a3] 117 zRF h (some (.int q.1)) 117 zRF q.2 := by
  unfold s_X10_kin at e
  refine zCT_of RX10 rfl zm_X10_kin (Nat.le_refl _) (Nat.le_of_ble_eq_true rfl) (fun J X => ?_)
  show J 0 [(0, .ref 67), (1, .int a1), (2, .int a2), (3, .int a3)] [] 117 zRF h
  refine zv_iload_n X dX10_kin_0 rfl rfl ?_
  refine zv_iconst (v := (0 : Int32)) X dX10_kin_1 zic_0 ?_
  refine zv_iconst (v := (4 : Int32)) X dX10_kin_2 zic_4 ?_
  refine zb e (fun q1 gq1 e => ?_)
  refine zv_callS (stk := [.int (4 : Int32), .int (0 : Int32), .int a1]) (as := [.int a1, .int (0 : Int32), .int (4 : Int32)]) (st := []) X zl_RX10_168 zm_X10_in (k_X10_in (d := d - 1) (by omega) gq1) (by omega) rfl (Nat.le_of_ble_eq_true rfl) (Nat.le_refl _) rfl dX10_kin_3 ?_
  show J 6 [(0, .ref 67), (1, .int a1), (2, .int a2), (3, .int a3)] [.int q1.1] 117 zRF q1.2
  refine zv_if_eq (tgt := 19) X dX10_kin_6 (by decide) (fun c2 => ?_) (fun c2 => ?_)
  · replace e := zit e c2
    exact zv_pick X [0] rfl (k_X10_kin_L19 q hd X  _ e)
  · replace e := zif e c2
    refine zv_iload_n X dX10_kin_9 rfl rfl ?_
    refine zv_iconst (v := (0 : Int32)) X dX10_kin_10 zic_0 ?_
    refine zv_bipush (v := (9 : Int32)) X dX10_kin_11 zbp_9 ?_
    refine zb e (fun q3 gq3 e => ?_)
    refine zv_callS (stk := [.int (9 : Int32), .int (0 : Int32), .int a2]) (as := [.int a2, .int (0 : Int32), .int (9 : Int32)]) (st := []) X zl_RX10_168 zm_X10_in (k_X10_in (d := d - 1) (by omega) gq3) (by omega) rfl (Nat.le_of_ble_eq_true rfl) (Nat.le_refl _) rfl dX10_kin_13 ?_
    show J 16 [(0, .ref 67), (1, .int a1), (2, .int a2), (3, .int a3)] [.int q3.1] 117 zRF q3.2
    refine zv_if_ne (tgt := 25) X dX10_kin_16 (by decide) (fun c4 => ?_) (fun c4 => ?_)
    · replace e := zif e c4
      refine zv_aload_n X dX10_kin_25 rfl rfl ?_
      refine zv_getR X zf_RX10_50 znt_a zk_67 zb_67 zr_67_16 dX10_kin_26 ?_
      refine zv_bipush (v := (10 : Int32)) X dX10_kin_29 zbp_10 ?_
      refine zv_iload_n X dX10_kin_31 rfl rfl ?_
      refine zv_imul X dX10_kin_32 ?_
      refine zv_iload_n X dX10_kin_33 rfl rfl ?_
      refine zv_iadd X dX10_kin_34 ?_
      refine zb e (fun v5 gv5 e => ?_)
      refine zv_zald X zk_81 zl_81 zb_81 dX10_kin_35 gv5 ?_
      refine zv_istore (i := 4) (lv' := [(4, .int v5), (0, .ref 67), (1, .int a1), (2, .int a2), (3, .int a3)]) X dX10_kin_36 (Nat.le_of_ble_eq_true rfl) rfl ?_
      refine zv_aload_n X dX10_kin_38 rfl rfl ?_
      refine zv_getR X zf_RX10_50 znt_a zk_67 zb_67 zr_67_16 dX10_kin_39 ?_
      refine zv_bipush (v := (10 : Int32)) X dX10_kin_42 zbp_10 ?_
      refine zv_iload_n X dX10_kin_44 rfl rfl ?_
      refine zv_imul X dX10_kin_45 ?_
      refine zv_iload_n X dX10_kin_46 rfl rfl ?_
      refine zv_iadd X dX10_kin_47 ?_
      refine zv_iload_n X dX10_kin_48 rfl rfl ?_
      refine zb e (fun h6 gh6 e => ?_)
      refine zv_zast X zk_81 zl_81 zb_81 dX10_kin_49 gh6 ?_
      refine zv_iload X dX10_kin_50 rfl ?_
      refine zv_iload_n X dX10_kin_52 rfl rfl ?_
      refine zv_icmp_ne (tgt := 60) X dX10_kin_53 (by decide) (fun c7 => ?_) (fun c7 => ?_)
      · replace e := zif e c7
        refine zv_iconst (v := (1 : Int32)) X dX10_kin_60 zic_1 ?_
        exact zv_pick X [] rfl (k_X10_kin_L61 q hd X _ _ e)
      · replace e := zit e c7
        refine zv_iconst (v := (0 : Int32)) X dX10_kin_56 zic_0 ?_
        refine zv_goto (tgt := 61) X dX10_kin_57 (by decide) ?_
        exact zv_pick X [] rfl (k_X10_kin_L61 q hd X _ _ e)
    · replace e := zit e c4
      exact zv_pick X [0] rfl (k_X10_kin_L19 q hd X  _ e)
-- X4_ownerOf
def s_X4_ownerOf (a1 : Int32) (h : zHp) : Option (Int32 × zHp) :=
  (zri h 17 20 a1).bind fun v1 =>
  some (v1, h)
set_option maxRecDepth 100000 in
set_option maxHeartbeats 4000000 in
theorem k_X4_ownerOf {l : Launch} {D : va_G} {cy : Nat → ClassId} {S0 d : Nat} (hd : 0 ≤ d) {a1 : Int32} {h : zHp} {q : (Int32 × zHp)} (e : s_X4_ownerOf a1 h = some q) : zCT l D cy S0 d yX4_ownerOf cX4_ownerOf 2 (some .int) [.ref 13, .int a1] 117 zRF h (some (.int q.1)) 117 zRF q.2 := by
  unfold s_X4_ownerOf at e
  refine zCT_of RX4 rfl zm_X4_ownerOf (Nat.le_refl _) (Nat.le_of_ble_eq_true rfl) (fun J X => ?_)
  show J 0 [(0, .ref 13), (1, .int a1)] [] 117 zRF h
  refine zv_aload_n X dX4_ownerOf_0 rfl rfl ?_
  refine zv_getR X zf_RX4_21 znt_a zk_13 zb_13 zr_13_3 dX4_ownerOf_1 ?_
  refine zv_iload_n X dX4_ownerOf_4 rfl rfl ?_
  refine zb e (fun v1 gv1 e => ?_)
  refine zv_iald X zk_17 zl_17 zb_17 dX4_ownerOf_5 gv1 ?_
  exact zv_retI X e rfl dX4_ownerOf_6
-- X5_isFull
def s_X5_isFull_L14 (b0 : Int32) (h : zHp) : Option (Int32 × zHp) :=
  (zbo b0).bind fun u1 =>
  some (b0, h)
def s_X5_isFull  (h : zHp) : Option (Int32 × zHp) :=
  if (h.1 24 8) < (80 : Int32) then
    s_X5_isFull_L14 (0 : Int32) h
  else
    s_X5_isFull_L14 (1 : Int32) h
set_option maxRecDepth 100000 in
set_option maxHeartbeats 4000000 in
theorem k_X5_isFull_L14 {l : Launch} {D : va_G} {cy : Nat → ClassId} {S0 d : Nat} {J : zJ} (q : (Int32 × zHp)) (hd : 0 ≤ d) (X : zOK l D cy S0 d RX5 cX5_isFull 1 (yX5_isFull.name == "<init>") 117 117 (some .boolean) (zRT 117 zRF (some (.int q.1)) q.2) J) : ∀ (b0 : Int32) (h : zHp), s_X5_isFull_L14 b0 h = some q → J 14 [] [.int b0] 117 zRF h := by
  intro b0 h e
  unfold s_X5_isFull_L14 at e
  refine zb e (fun u gu e => ?_)
  exact zv_retZ X e rfl (zbo_ok gu) dX5_isFull_14
set_option maxRecDepth 100000 in
set_option maxHeartbeats 4000000 in
theorem k_X5_isFull {l : Launch} {D : va_G} {cy : Nat → ClassId} {S0 d : Nat} (hd : 0 ≤ d) {h : zHp} {q : (Int32 × zHp)} (e : s_X5_isFull  h = some q) : zCT l D cy S0 d yX5_isFull cX5_isFull 1 (some .boolean) [.ref 24] 117 zRF h (some (.int q.1)) 117 zRF q.2 := by
  unfold s_X5_isFull at e
  refine zCT_of RX5 rfl zm_X5_isFull (Nat.le_refl _) (Nat.le_of_ble_eq_true rfl) (fun J X => ?_)
  show J 0 [(0, .ref 24)] [] 117 zRF h
  refine zv_aload_n X dX5_isFull_0 rfl rfl ?_
  refine zv_getI X zf_RX5_33 zk_24 zb_24 dX5_isFull_1 ?_
  refine zv_bipush (v := (80 : Int32)) X dX5_isFull_4 zbp_80 ?_
  refine zv_icmp_lt (tgt := 13) X dX5_isFull_6 (by decide) (fun c1 => ?_) (fun c1 => ?_)
  · replace e := zit e c1
    refine zv_iconst (v := (0 : Int32)) X dX5_isFull_13 zic_0 ?_
    exact zv_pick X [] rfl (k_X5_isFull_L14 q hd X _ _ e)
  · replace e := zif e c1
    refine zv_iconst (v := (1 : Int32)) X dX5_isFull_9 zic_1 ?_
    refine zv_goto (tgt := 14) X dX5_isFull_10 (by decide) ?_
    exact zv_pick X [] rfl (k_X5_isFull_L14 q hd X _ _ e)
-- X5_add
def s_X5_add (a1 : Int32) (a2 : Int32) (a3 : Int32) (a4 : Int32) (h : zHp) : Option (Int32 × zHp) :=
  (zui h 25 80 (h.1 24 8) a1).bind fun h1 =>
  (zui h1 26 80 (h1.1 24 8) a2).bind fun h2 =>
  (zui h2 27 80 (h2.1 24 8) a3).bind fun h3 =>
  (zui h3 28 80 (h3.1 24 8) a4).bind fun h4 =>
  (some (h4.1 24 8)).bind fun v5 =>
  (some (v5 + (1 : Int32))).bind fun v6 =>
  (zpi h4 24 8 v6).bind fun h7 =>
  some (v5, h7)
set_option maxRecDepth 100000 in
set_option maxHeartbeats 4000000 in
theorem k_X5_add {l : Launch} {D : va_G} {cy : Nat → ClassId} {S0 d : Nat} (hd : 0 ≤ d) {a1 : Int32} {a2 : Int32} {a3 : Int32} {a4 : Int32} {h : zHp} {q : (Int32 × zHp)} (e : s_X5_add a1 a2 a3 a4 h = some q) : zCT l D cy S0 d yX5_add cX5_add 5 (some .int) [.ref 24, .int a1, .int a2, .int a3, .int a4] 117 zRF h (some (.int q.1)) 117 zRF q.2 := by
  unfold s_X5_add at e
  refine zCT_of RX5 rfl zm_X5_add (Nat.le_refl _) (Nat.le_of_ble_eq_true rfl) (fun J X => ?_)
  show J 0 [(0, .ref 24), (1, .int a1), (2, .int a2), (3, .int a3), (4, .int a4)] [] 117 zRF h
  refine zv_aload_n X dX5_add_0 rfl rfl ?_
  refine zv_getR X zf_RX5_9 znt_a zk_24 zb_24 zr_24_1 dX5_add_1 ?_
  refine zv_aload_n X dX5_add_4 rfl rfl ?_
  refine zv_getI X zf_RX5_33 zk_24 zb_24 dX5_add_5 ?_
  refine zv_iload_n X dX5_add_8 rfl rfl ?_
  refine zb e (fun h1 gh1 e => ?_)
  refine zv_iast X zk_25 zl_25 zb_25 dX5_add_9 gh1 ?_
  refine zv_aload_n X dX5_add_10 rfl rfl ?_
  refine zv_getR X zf_RX5_15 znt_a zk_24 zb_24 zr_24_2 dX5_add_11 ?_
  refine zv_aload_n X dX5_add_14 rfl rfl ?_
  refine zv_getI X zf_RX5_33 zk_24 zb_24 dX5_add_15 ?_
  refine zv_iload_n X dX5_add_18 rfl rfl ?_
  refine zb e (fun h2 gh2 e => ?_)
  refine zv_iast X zk_26 zl_26 zb_26 dX5_add_19 gh2 ?_
  refine zv_aload_n X dX5_add_20 rfl rfl ?_
  refine zv_getR X zf_RX5_18 znt_a zk_24 zb_24 zr_24_3 dX5_add_21 ?_
  refine zv_aload_n X dX5_add_24 rfl rfl ?_
  refine zv_getI X zf_RX5_33 zk_24 zb_24 dX5_add_25 ?_
  refine zv_iload_n X dX5_add_28 rfl rfl ?_
  refine zb e (fun h3 gh3 e => ?_)
  refine zv_iast X zk_27 zl_27 zb_27 dX5_add_29 gh3 ?_
  refine zv_aload_n X dX5_add_30 rfl rfl ?_
  refine zv_getR X zf_RX5_21 znt_a zk_24 zb_24 zr_24_4 dX5_add_31 ?_
  refine zv_aload_n X dX5_add_34 rfl rfl ?_
  refine zv_getI X zf_RX5_33 zk_24 zb_24 dX5_add_35 ?_
  refine zv_iload X dX5_add_38 rfl ?_
  refine zb e (fun h4 gh4 e => ?_)
  refine zv_iast X zk_28 zl_28 zb_28 dX5_add_40 gh4 ?_
  refine zv_aload_n X dX5_add_41 rfl rfl ?_
  refine zv_dup_r X dX5_add_42 ?_
  refine zv_getI X zf_RX5_33 zk_24 zb_24 dX5_add_43 ?_
  refine zb e (fun v5 gv5 e => ?_)
  refine zv_nmI X gv5 ?_
  refine zv_dup_x1 X dX5_add_46 ?_
  refine zv_iconst (v := (1 : Int32)) X dX5_add_47 zic_1 ?_
  refine zv_iadd X dX5_add_48 ?_
  refine zb e (fun v6 gv6 e => ?_)
  refine zv_nmI X gv6 ?_
  refine zb e (fun h7 gh7 e => ?_)
  refine zv_putI' X zf_RX5_33 zk_24 zb_24 dX5_add_49 gh7 ?_
  exact zv_retI X e rfl dX5_add_52

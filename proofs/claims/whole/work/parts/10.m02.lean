-- X9_look
def s_X9_look_L19  (h : zHp) : Option (Int32 × zHp) :=
  (s_X9_refused (-1 : Int32) h).bind fun q1 =>
  some (q1.1, q1.2)
def s_X9_look (a1 : Int32) (a2 : Int32) (a3 : Int32) (h : zHp) : Option (Int32 × zHp) :=
  (s_X4_has a1 h).bind fun q1 =>
  if q1.1 = 0 then
    s_X9_look_L19 q1.2
  else
    (s_X9_isWithin a2 (5 : Int32) q1.2).bind fun q3 =>
    if q3.1 = 0 then
      s_X9_look_L19 q3.2
    else
      (s_X4_ownerOf a1 q3.2).bind fun q5 =>
      (s_X9_isKin a2 q5.1 q5.2).bind fun q6 =>
      if q6.1 = 0 then
        if a3 ≤ (q6.2.1 0 14) then
          if 0 ≤ a3 then
            (s_X5_isFull q6.2).bind fun q10 =>
            if q10.1 = 0 then
              (s_X5_add a1 a2 a3 (q10.2.1 0 14) q10.2).bind fun q12 =>
              some (q12.1, q12.2)
            else
              (s_X9_refused (-6 : Int32) q10.2).bind fun q13 =>
              some (q13.1, q13.2)
          else
            (s_X9_refused (-4 : Int32) q6.2).bind fun q14 =>
            some (q14.1, q14.2)
        else
          (s_X9_refused (-3 : Int32) q6.2).bind fun q15 =>
          some (q15.1, q15.2)
      else
        (s_X9_refused (-7 : Int32) q6.2).bind fun q16 =>
        some (q16.1, q16.2)
set_option maxRecDepth 100000 in
set_option maxHeartbeats 4000000 in
theorem k_X9_look_L19 {l : Launch} {D : va_G} {cy : Nat → ClassId} {S0 d : Nat} {J : zJ} (q : (Int32 × zHp)) (hd : 1 ≤ d) (X : zOK l D cy S0 d RX9 cX9_look 4 (yX9_look.name == "<init>") 117 117 (some .int) (zRT 117 zRF (some (.int q.1)) q.2) J) : ∀  (h : zHp), s_X9_look_L19  h = some q → J 19 [(0, .ref 0)] [] 117 zRF h := by
  intro  h e
  unfold s_X9_look_L19 at e
  refine zv_aload_n X dX9_look_19 rfl rfl ?_
  refine zv_iconst (v := (-1 : Int32)) X dX9_look_20 zic_m1 ?_
  refine zb e (fun q1 gq1 e => ?_)
  refine zv_callV (stk := [.int (-1 : Int32), .ref 0]) (as := [.int (-1 : Int32)]) (st := []) (k := 0) X zl_RX9_108 zm_X9_refused (k_X9_refused (d := d - 1) (by omega) gq1) (by omega) zb_0 (by rw [zk_0]; rfl) rfl rfl (Nat.le_of_ble_eq_true rfl) (Nat.le_refl _) rfl dX9_look_21 ?_
  show J 24 [(0, .ref 0)] [.int q1.1] 117 zRF q1.2
  exact zv_retI X e rfl dX9_look_24
set_option maxRecDepth 100000 in
set_option maxHeartbeats 4000000 in
theorem k_X9_look {l : Launch} {D : va_G} {cy : Nat → ClassId} {S0 d : Nat} (hd : 1 ≤ d) {a1 : Int32} {a2 : Int32} {a3 : Int32} {h : zHp} {q : (Int32 × zHp)} (e : s_X9_look a1 a2 a3 h = some q) : zCT l D cy S0 d yX9_look cX9_look 4 (some .int) [.ref 0, .int a1, .int a2, .int a3] 117 zRF h (some (.int q.1)) 117 zRF q.2 := by
  unfold s_X9_look at e
  refine zCT_of RX9 rfl zm_X9_look (Nat.le_refl _) (Nat.le_of_ble_eq_true rfl) (fun J X => ?_)
  show J 0 [(0, .ref 0), (1, .int a1), (2, .int a2), (3, .int a3)] [] 117 zRF h
  refine zv_aload_n X dX9_look_0 rfl rfl ?_
  refine zv_getR X zf_RX9_36 znt_o zk_0 zb_0 zr_0_6 dX9_look_1 ?_
  refine zv_iload_n X dX9_look_4 rfl rfl ?_
  refine zb e (fun q1 gq1 e => ?_)
  refine zv_callV (stk := [.int a1, .ref 13]) (as := [.int a1]) (st := []) (k := 13) X zl_RX9_146 zm_X4_has (k_X4_has (d := d - 1) (by omega) gq1) (by omega) zb_13 (by rw [zk_13]; rfl) rfl rfl (Nat.le_of_ble_eq_true rfl) (Nat.le_refl _) rfl dX9_look_5 ?_
  show J 8 [(0, .ref 0), (1, .int a1), (2, .int a2), (3, .int a3)] [.int q1.1] 117 zRF q1.2
  refine zv_if_eq (tgt := 19) X dX9_look_8 (by decide) (fun c2 => ?_) (fun c2 => ?_)
  · replace e := zit e c2
    exact zv_pick X [0] rfl (k_X9_look_L19 q hd X  _ e)
  · replace e := zif e c2
    refine zv_iload_n X dX9_look_11 rfl rfl ?_
    refine zv_iconst (v := (5 : Int32)) X dX9_look_12 zic_5 ?_
    refine zb e (fun q3 gq3 e => ?_)
    refine zv_callS (stk := [.int (5 : Int32), .int a2]) (as := [.int a2, .int (5 : Int32)]) (st := []) X zl_RX9_112 zm_X9_isWithin (k_X9_isWithin (d := d - 1) (by omega) gq3) (by omega) rfl (Nat.le_of_ble_eq_true rfl) (Nat.le_refl _) rfl dX9_look_13 ?_
    show J 16 [(0, .ref 0), (1, .int a1), (2, .int a2), (3, .int a3)] [.int q3.1] 117 zRF q3.2
    refine zv_if_ne (tgt := 25) X dX9_look_16 (by decide) (fun c4 => ?_) (fun c4 => ?_)
    · replace e := zif e c4
      refine zv_aload_n X dX9_look_25 rfl rfl ?_
      refine zv_iload_n X dX9_look_26 rfl rfl ?_
      refine zv_aload_n X dX9_look_27 rfl rfl ?_
      refine zv_getR X zf_RX9_36 znt_o zk_0 zb_0 zr_0_6 dX9_look_28 ?_
      refine zv_iload_n X dX9_look_31 rfl rfl ?_
      refine zb e (fun q5 gq5 e => ?_)
      refine zv_callV (stk := [.int a1, .ref 13, .int a2, .ref 0]) (as := [.int a1]) (st := [.int a2, .ref 0]) (k := 13) X zl_RX9_157 zm_X4_ownerOf (k_X4_ownerOf (d := d - 1) (by omega) gq5) (by omega) zb_13 (by rw [zk_13]; rfl) rfl rfl (Nat.le_of_ble_eq_true rfl) (Nat.le_refl _) rfl dX9_look_32 ?_
      show J 35 [(0, .ref 0), (1, .int a1), (2, .int a2), (3, .int a3)] [.int q5.1, .int a2, .ref 0] 117 zRF q5.2
      refine zb e (fun q6 gq6 e => ?_)
      refine zv_callV (stk := [.int q5.1, .int a2, .ref 0]) (as := [.int a2, .int q5.1]) (st := []) (k := 0) X zl_RX9_154 zm_X9_isKin (k_X9_isKin (d := d - 1) (by omega) gq6) (by omega) zb_0 (by rw [zk_0]; rfl) rfl rfl (Nat.le_of_ble_eq_true rfl) (Nat.le_refl _) rfl dX9_look_35 ?_
      show J 38 [(0, .ref 0), (1, .int a1), (2, .int a2), (3, .int a3)] [.int q6.1] 117 zRF q6.2
      refine zv_if_eq (tgt := 48) X dX9_look_38 (by decide) (fun c7 => ?_) (fun c7 => ?_)
      · replace e := zit e c7
        refine zv_iload_n X dX9_look_48 rfl rfl ?_
        refine zv_aload_n X dX9_look_49 rfl rfl ?_
        refine zv_getI X zf_RX9_95 zk_0 zb_0 dX9_look_50 ?_
        refine zv_icmp_le (tgt := 63) X dX9_look_53 (by decide) (fun c8 => ?_) (fun c8 => ?_)
        · replace e := zit e c8
          refine zv_iload_n X dX9_look_63 rfl rfl ?_
          refine zv_if_ge (tgt := 74) X dX9_look_64 (by decide) (fun c9 => ?_) (fun c9 => ?_)
          · replace e := zit e c9
            refine zv_aload_n X dX9_look_74 rfl rfl ?_
            refine zv_getR X zf_RX9_45 znt_o zk_0 zb_0 zr_0_7 dX9_look_75 ?_
            refine zb e (fun q10 gq10 e => ?_)
            refine zv_callV (stk := [.ref 24]) (as := []) (st := []) (k := 24) X zl_RX9_160 zm_X5_isFull (k_X5_isFull (d := d - 1) (by omega) gq10) (by omega) zb_24 (by rw [zk_24]; rfl) rfl rfl (Nat.le_of_ble_eq_true rfl) (Nat.le_refl _) rfl dX9_look_78 ?_
            show J 81 [(0, .ref 0), (1, .int a1), (2, .int a2), (3, .int a3)] [.int q10.1] 117 zRF q10.2
            refine zv_if_eq (tgt := 91) X dX9_look_81 (by decide) (fun c11 => ?_) (fun c11 => ?_)
            · replace e := zit e c11
              refine zv_aload_n X dX9_look_91 rfl rfl ?_
              refine zv_getR X zf_RX9_45 znt_o zk_0 zb_0 zr_0_7 dX9_look_92 ?_
              refine zv_iload_n X dX9_look_95 rfl rfl ?_
              refine zv_iload_n X dX9_look_96 rfl rfl ?_
              refine zv_iload_n X dX9_look_97 rfl rfl ?_
              refine zv_aload_n X dX9_look_98 rfl rfl ?_
              refine zv_getI X zf_RX9_95 zk_0 zb_0 dX9_look_99 ?_
              refine zb e (fun q12 gq12 e => ?_)
              refine zv_callV (stk := [.int (q10.2.1 0 14), .int a3, .int a2, .int a1, .ref 24]) (as := [.int a1, .int a2, .int a3, .int (q10.2.1 0 14)]) (st := []) (k := 24) X zl_RX9_161 zm_X5_add (k_X5_add (d := d - 1) (by omega) gq12) (by omega) zb_24 (by rw [zk_24]; rfl) rfl rfl (Nat.le_of_ble_eq_true rfl) (Nat.le_refl _) rfl dX9_look_102 ?_
              show J 105 [(0, .ref 0), (1, .int a1), (2, .int a2), (3, .int a3)] [.int q12.1] 117 zRF q12.2
              exact zv_retI X e rfl dX9_look_105
            · replace e := zif e c11
              refine zv_aload_n X dX9_look_84 rfl rfl ?_
              refine zv_bipush (v := (-6 : Int32)) X dX9_look_85 zbp_m6 ?_
              refine zb e (fun q13 gq13 e => ?_)
              refine zv_callV (stk := [.int (-6 : Int32), .ref 0]) (as := [.int (-6 : Int32)]) (st := []) (k := 0) X zl_RX9_108 zm_X9_refused (k_X9_refused (d := d - 1) (by omega) gq13) (by omega) zb_0 (by rw [zk_0]; rfl) rfl rfl (Nat.le_of_ble_eq_true rfl) (Nat.le_refl _) rfl dX9_look_87 ?_
              show J 90 [(0, .ref 0), (1, .int a1), (2, .int a2), (3, .int a3)] [.int q13.1] 117 zRF q13.2
              exact zv_retI X e rfl dX9_look_90
          · replace e := zif e c9
            refine zv_aload_n X dX9_look_67 rfl rfl ?_
            refine zv_bipush (v := (-4 : Int32)) X dX9_look_68 zbp_m4 ?_
            refine zb e (fun q14 gq14 e => ?_)
            refine zv_callV (stk := [.int (-4 : Int32), .ref 0]) (as := [.int (-4 : Int32)]) (st := []) (k := 0) X zl_RX9_108 zm_X9_refused (k_X9_refused (d := d - 1) (by omega) gq14) (by omega) zb_0 (by rw [zk_0]; rfl) rfl rfl (Nat.le_of_ble_eq_true rfl) (Nat.le_refl _) rfl dX9_look_70 ?_
            show J 73 [(0, .ref 0), (1, .int a1), (2, .int a2), (3, .int a3)] [.int q14.1] 117 zRF q14.2
            exact zv_retI X e rfl dX9_look_73
        · replace e := zif e c8
          refine zv_aload_n X dX9_look_56 rfl rfl ?_
          refine zv_bipush (v := (-3 : Int32)) X dX9_look_57 zbp_m3 ?_
          refine zb e (fun q15 gq15 e => ?_)
          refine zv_callV (stk := [.int (-3 : Int32), .ref 0]) (as := [.int (-3 : Int32)]) (st := []) (k := 0) X zl_RX9_108 zm_X9_refused (k_X9_refused (d := d - 1) (by omega) gq15) (by omega) zb_0 (by rw [zk_0]; rfl) rfl rfl (Nat.le_of_ble_eq_true rfl) (Nat.le_refl _) rfl dX9_look_59 ?_
          show J 62 [(0, .ref 0), (1, .int a1), (2, .int a2), (3, .int a3)] [.int q15.1] 117 zRF q15.2
          exact zv_retI X e rfl dX9_look_62
      · replace e := zif e c7
        refine zv_aload_n X dX9_look_41 rfl rfl ?_
        refine zv_bipush (v := (-7 : Int32)) X dX9_look_42 zbp_m7 ?_
        refine zb e (fun q16 gq16 e => ?_)
        refine zv_callV (stk := [.int (-7 : Int32), .ref 0]) (as := [.int (-7 : Int32)]) (st := []) (k := 0) X zl_RX9_108 zm_X9_refused (k_X9_refused (d := d - 1) (by omega) gq16) (by omega) zb_0 (by rw [zk_0]; rfl) rfl rfl (Nat.le_of_ble_eq_true rfl) (Nat.le_refl _) rfl dX9_look_44 ?_
        show J 47 [(0, .ref 0), (1, .int a1), (2, .int a2), (3, .int a3)] [.int q16.1] 117 zRF q16.2
        exact zv_retI X e rfl dX9_look_47
    · replace e := zit e c4
      exact zv_pick X [0] rfl (k_X9_look_L19 q hd X  _ e)
-- X10_look
def s_X10_look_L17  (h : zHp) : Option (Int32 × zHp) :=
  (s_X10_refuse (-1 : Int32) h).bind fun q1 =>
  some (q1.1, q1.2)
def s_X10_look (a1 : Int32) (a2 : Int32) (a3 : Int32) (h : zHp) : Option (Int32 × zHp) :=
  (s_X10_isKitchen a1 h).bind fun q1 =>
  if q1.1 = 0 then
    s_X10_look_L17 q1.2
  else
    (s_X10_in a2 (0 : Int32) (4 : Int32) q1.2).bind fun q3 =>
    if q3.1 = 0 then
      s_X10_look_L17 q3.2
    else
      (zri q3.2 77 20 a1).bind fun v5 =>
      (zri q3.2 81 50 (((10 : Int32) * a2) + v5)).bind fun v6 =>
      if v6 = 0 then
        if a3 ≤ (q3.2.1 67 0) then
          if 0 ≤ a3 then
            if (q3.2.1 67 17) = (80 : Int32) then
              (s_X10_refuse (-6 : Int32) q3.2).bind fun q18 =>
              some (q18.1, q18.2)
            else
              (zui q3.2 82 80 (q3.2.1 67 17) a1).bind fun h11 =>
              (zui h11 83 80 (h11.1 67 17) a2).bind fun h12 =>
              (zui h12 84 80 (h12.1 67 17) a3).bind fun h13 =>
              (zui h13 85 80 (h13.1 67 17) (h13.1 67 0)).bind fun h14 =>
              (zui h14 86 80 (h14.1 67 17) (-1 : Int32)).bind fun h15 =>
              (some ((h15.1 67 17) + (1 : Int32))).bind fun v16 =>
              (zpi h15 67 17 v16).bind fun h17 =>
              some ((h17.1 67 17) - (1 : Int32), h17)
          else
            (s_X10_refuse (-4 : Int32) q3.2).bind fun q19 =>
            some (q19.1, q19.2)
        else
          (s_X10_refuse (-3 : Int32) q3.2).bind fun q20 =>
          some (q20.1, q20.2)
      else
        (s_X10_refuse (-7 : Int32) q3.2).bind fun q21 =>
        some (q21.1, q21.2)
set_option maxRecDepth 100000 in
set_option maxHeartbeats 4000000 in
theorem k_X10_look_L17 {l : Launch} {D : va_G} {cy : Nat → ClassId} {S0 d : Nat} {J : zJ} (q : (Int32 × zHp)) (hd : 2 ≤ d) (X : zOK l D cy S0 d RX10 cX10_look 4 (yX10_look.name == "<init>") 117 117 (some .int) (zRT 117 zRF (some (.int q.1)) q.2) J) : ∀  (h : zHp), s_X10_look_L17  h = some q → J 17 [(0, .ref 67)] [] 117 zRF h := by
  intro  h e
  unfold s_X10_look_L17 at e
  refine zv_aload_n X dX10_look_17 rfl rfl ?_
  refine zv_iconst (v := (-1 : Int32)) X dX10_look_18 zic_m1 ?_
  refine zb e (fun q1 gq1 e => ?_)
  refine zv_callV (stk := [.int (-1 : Int32), .ref 67]) (as := [.int (-1 : Int32)]) (st := []) (k := 67) X zl_RX10_175 zm_X10_refuse (k_X10_refuse (d := d - 1) (by omega) gq1) (by omega) zb_67 (by rw [zk_67]; rfl) rfl rfl (Nat.le_of_ble_eq_true rfl) (Nat.le_refl _) rfl dX10_look_19 ?_
  show J 22 [(0, .ref 67)] [.int q1.1] 117 zRF q1.2
  exact zv_retI X e rfl dX10_look_22
set_option maxRecDepth 100000 in
set_option maxHeartbeats 4000000 in
theorem k_X10_look {l : Launch} {D : va_G} {cy : Nat → ClassId} {S0 d : Nat} (hd : 2 ≤ d) {a1 : Int32} {a2 : Int32} {a3 : Int32} {h : zHp} {q : (Int32 × zHp)} (e : s_X10_look a1 a2 a3 h = some q) : zCT l D cy S0 d yX10_look cX10_look 4 (some .int) [.ref 67, .int a1, .int a2, .int a3] 117 zRF h (some (.int q.1)) 117 zRF q.2 := by
  unfold s_X10_look at e
  refine zCT_of RX10 rfl zm_X10_look (Nat.le_refl _) (Nat.le_of_ble_eq_true rfl) (fun J X => ?_)
  show J 0 [(0, .ref 67), (1, .int a1), (2, .int a2), (3, .int a3)] [] 117 zRF h
  refine zv_aload_n X dX10_look_0 rfl rfl ?_
  refine zv_iload_n X dX10_look_1 rfl rfl ?_
  refine zb e (fun q1 gq1 e => ?_)
  refine zv_callV (stk := [.int a1, .ref 67]) (as := [.int a1]) (st := []) (k := 67) X zl_RX10_196 zm_X10_isKitchen (k_X10_isKitchen (d := d - 1) (by omega) gq1) (by omega) zb_67 (by rw [zk_67]; rfl) rfl rfl (Nat.le_of_ble_eq_true rfl) (Nat.le_refl _) rfl dX10_look_2 ?_
  show J 5 [(0, .ref 67), (1, .int a1), (2, .int a2), (3, .int a3)] [.int q1.1] 117 zRF q1.2
  refine zv_if_eq (tgt := 17) X dX10_look_5 (by decide) (fun c2 => ?_) (fun c2 => ?_)
  · replace e := zit e c2
    exact zv_pick X [0] rfl (k_X10_look_L17 q hd X  _ e)
  · replace e := zif e c2
    refine zv_iload_n X dX10_look_8 rfl rfl ?_
    refine zv_iconst (v := (0 : Int32)) X dX10_look_9 zic_0 ?_
    refine zv_iconst (v := (4 : Int32)) X dX10_look_10 zic_4 ?_
    refine zb e (fun q3 gq3 e => ?_)
    refine zv_callS (stk := [.int (4 : Int32), .int (0 : Int32), .int a2]) (as := [.int a2, .int (0 : Int32), .int (4 : Int32)]) (st := []) X zl_RX10_168 zm_X10_in (k_X10_in (d := d - 1) (by omega) gq3) (by omega) rfl (Nat.le_of_ble_eq_true rfl) (Nat.le_refl _) rfl dX10_look_11 ?_
    show J 14 [(0, .ref 67), (1, .int a1), (2, .int a2), (3, .int a3)] [.int q3.1] 117 zRF q3.2
    refine zv_if_ne (tgt := 23) X dX10_look_14 (by decide) (fun c4 => ?_) (fun c4 => ?_)
    · replace e := zif e c4
      refine zv_aload_n X dX10_look_23 rfl rfl ?_
      refine zv_getR X zf_RX10_50 znt_a zk_67 zb_67 zr_67_16 dX10_look_24 ?_
      refine zv_bipush (v := (10 : Int32)) X dX10_look_27 zbp_10 ?_
      refine zv_iload_n X dX10_look_29 rfl rfl ?_
      refine zv_imul X dX10_look_30 ?_
      refine zv_aload_n X dX10_look_31 rfl rfl ?_
      refine zv_getR X zf_RX10_37 znt_a zk_67 zb_67 zr_67_12 dX10_look_32 ?_
      refine zv_iload_n X dX10_look_35 rfl rfl ?_
      refine zb e (fun v5 gv5 e => ?_)
      refine zv_iald X zk_77 zl_77 zb_77 dX10_look_36 gv5 ?_
      refine zv_iadd X dX10_look_37 ?_
      refine zb e (fun v6 gv6 e => ?_)
      refine zv_zald X zk_81 zl_81 zb_81 dX10_look_38 gv6 ?_
      refine zv_if_eq (tgt := 49) X dX10_look_39 (by decide) (fun c7 => ?_) (fun c7 => ?_)
      · replace e := zit e c7
        refine zv_iload_n X dX10_look_49 rfl rfl ?_
        refine zv_aload_n X dX10_look_50 rfl rfl ?_
        refine zv_getI X zf_RX10_179 zk_67 zb_67 dX10_look_51 ?_
        refine zv_icmp_le (tgt := 64) X dX10_look_54 (by decide) (fun c8 => ?_) (fun c8 => ?_)
        · replace e := zit e c8
          refine zv_iload_n X dX10_look_64 rfl rfl ?_
          refine zv_if_ge (tgt := 75) X dX10_look_65 (by decide) (fun c9 => ?_) (fun c9 => ?_)
          · replace e := zit e c9
            refine zv_aload_n X dX10_look_75 rfl rfl ?_
            refine zv_getI X zf_RX10_172 zk_67 zb_67 dX10_look_76 ?_
            refine zv_bipush (v := (80 : Int32)) X dX10_look_79 zbp_80 ?_
            refine zv_icmp_ne (tgt := 91) X dX10_look_81 (by decide) (fun c10 => ?_) (fun c10 => ?_)
            · replace e := zif e c10
              refine zv_aload_n X dX10_look_91 rfl rfl ?_
              refine zv_getR X zf_RX10_53 znt_a zk_67 zb_67 zr_67_18 dX10_look_92 ?_
              refine zv_aload_n X dX10_look_95 rfl rfl ?_
              refine zv_getI X zf_RX10_172 zk_67 zb_67 dX10_look_96 ?_
              refine zv_iload_n X dX10_look_99 rfl rfl ?_
              refine zb e (fun h11 gh11 e => ?_)
              refine zv_iast X zk_82 zl_82 zb_82 dX10_look_100 gh11 ?_
              refine zv_aload_n X dX10_look_101 rfl rfl ?_
              refine zv_getR X zf_RX10_56 znt_a zk_67 zb_67 zr_67_19 dX10_look_102 ?_
              refine zv_aload_n X dX10_look_105 rfl rfl ?_
              refine zv_getI X zf_RX10_172 zk_67 zb_67 dX10_look_106 ?_
              refine zv_iload_n X dX10_look_109 rfl rfl ?_
              refine zb e (fun h12 gh12 e => ?_)
              refine zv_iast X zk_83 zl_83 zb_83 dX10_look_110 gh12 ?_
              refine zv_aload_n X dX10_look_111 rfl rfl ?_
              refine zv_getR X zf_RX10_59 znt_a zk_67 zb_67 zr_67_20 dX10_look_112 ?_
              refine zv_aload_n X dX10_look_115 rfl rfl ?_
              refine zv_getI X zf_RX10_172 zk_67 zb_67 dX10_look_116 ?_
              refine zv_iload_n X dX10_look_119 rfl rfl ?_
              refine zb e (fun h13 gh13 e => ?_)
              refine zv_iast X zk_84 zl_84 zb_84 dX10_look_120 gh13 ?_
              refine zv_aload_n X dX10_look_121 rfl rfl ?_
              refine zv_getR X zf_RX10_62 znt_a zk_67 zb_67 zr_67_21 dX10_look_122 ?_
              refine zv_aload_n X dX10_look_125 rfl rfl ?_
              refine zv_getI X zf_RX10_172 zk_67 zb_67 dX10_look_126 ?_
              refine zv_aload_n X dX10_look_129 rfl rfl ?_
              refine zv_getI X zf_RX10_179 zk_67 zb_67 dX10_look_130 ?_
              refine zb e (fun h14 gh14 e => ?_)
              refine zv_iast X zk_85 zl_85 zb_85 dX10_look_133 gh14 ?_
              refine zv_aload_n X dX10_look_134 rfl rfl ?_
              refine zv_getR X zf_RX10_65 znt_a zk_67 zb_67 zr_67_22 dX10_look_135 ?_
              refine zv_aload_n X dX10_look_138 rfl rfl ?_
              refine zv_getI X zf_RX10_172 zk_67 zb_67 dX10_look_139 ?_
              refine zv_iconst (v := (-1 : Int32)) X dX10_look_142 zic_m1 ?_
              refine zb e (fun h15 gh15 e => ?_)
              refine zv_iast X zk_86 zl_86 zb_86 dX10_look_143 gh15 ?_
              refine zv_aload_n X dX10_look_144 rfl rfl ?_
              refine zv_dup_r X dX10_look_145 ?_
              refine zv_getI X zf_RX10_172 zk_67 zb_67 dX10_look_146 ?_
              refine zv_iconst (v := (1 : Int32)) X dX10_look_149 zic_1 ?_
              refine zv_iadd X dX10_look_150 ?_
              refine zb e (fun v16 gv16 e => ?_)
              refine zv_nmI X gv16 ?_
              refine zb e (fun h17 gh17 e => ?_)
              refine zv_putI' X zf_RX10_172 zk_67 zb_67 dX10_look_151 gh17 ?_
              refine zv_aload_n X dX10_look_154 rfl rfl ?_
              refine zv_getI X zf_RX10_172 zk_67 zb_67 dX10_look_155 ?_
              refine zv_iconst (v := (1 : Int32)) X dX10_look_158 zic_1 ?_
              refine zv_isub X dX10_look_159 ?_
              exact zv_retI X e rfl dX10_look_160
            · replace e := zit e c10
              refine zv_aload_n X dX10_look_84 rfl rfl ?_
              refine zv_bipush (v := (-6 : Int32)) X dX10_look_85 zbp_m6 ?_
              refine zb e (fun q18 gq18 e => ?_)
              refine zv_callV (stk := [.int (-6 : Int32), .ref 67]) (as := [.int (-6 : Int32)]) (st := []) (k := 67) X zl_RX10_175 zm_X10_refuse (k_X10_refuse (d := d - 1) (by omega) gq18) (by omega) zb_67 (by rw [zk_67]; rfl) rfl rfl (Nat.le_of_ble_eq_true rfl) (Nat.le_refl _) rfl dX10_look_87 ?_
              show J 90 [(0, .ref 67), (1, .int a1), (2, .int a2), (3, .int a3)] [.int q18.1] 117 zRF q18.2
              exact zv_retI X e rfl dX10_look_90
          · replace e := zif e c9
            refine zv_aload_n X dX10_look_68 rfl rfl ?_
            refine zv_bipush (v := (-4 : Int32)) X dX10_look_69 zbp_m4 ?_
            refine zb e (fun q19 gq19 e => ?_)
            refine zv_callV (stk := [.int (-4 : Int32), .ref 67]) (as := [.int (-4 : Int32)]) (st := []) (k := 67) X zl_RX10_175 zm_X10_refuse (k_X10_refuse (d := d - 1) (by omega) gq19) (by omega) zb_67 (by rw [zk_67]; rfl) rfl rfl (Nat.le_of_ble_eq_true rfl) (Nat.le_refl _) rfl dX10_look_71 ?_
            show J 74 [(0, .ref 67), (1, .int a1), (2, .int a2), (3, .int a3)] [.int q19.1] 117 zRF q19.2
            exact zv_retI X e rfl dX10_look_74
        · replace e := zif e c8
          refine zv_aload_n X dX10_look_57 rfl rfl ?_
          refine zv_bipush (v := (-3 : Int32)) X dX10_look_58 zbp_m3 ?_
          refine zb e (fun q20 gq20 e => ?_)
          refine zv_callV (stk := [.int (-3 : Int32), .ref 67]) (as := [.int (-3 : Int32)]) (st := []) (k := 67) X zl_RX10_175 zm_X10_refuse (k_X10_refuse (d := d - 1) (by omega) gq20) (by omega) zb_67 (by rw [zk_67]; rfl) rfl rfl (Nat.le_of_ble_eq_true rfl) (Nat.le_refl _) rfl dX10_look_60 ?_
          show J 63 [(0, .ref 67), (1, .int a1), (2, .int a2), (3, .int a3)] [.int q20.1] 117 zRF q20.2
          exact zv_retI X e rfl dX10_look_63
      · replace e := zif e c7
        refine zv_aload_n X dX10_look_42 rfl rfl ?_
        refine zv_bipush (v := (-7 : Int32)) X dX10_look_43 zbp_m7 ?_
        refine zb e (fun q21 gq21 e => ?_)
        refine zv_callV (stk := [.int (-7 : Int32), .ref 67]) (as := [.int (-7 : Int32)]) (st := []) (k := 67) X zl_RX10_175 zm_X10_refuse (k_X10_refuse (d := d - 1) (by omega) gq21) (by omega) zb_67 (by rw [zk_67]; rfl) rfl rfl (Nat.le_of_ble_eq_true rfl) (Nat.le_refl _) rfl dX10_look_45 ?_
        show J 48 [(0, .ref 67), (1, .int a1), (2, .int a2), (3, .int a3)] [.int q21.1] 117 zRF q21.2
        exact zv_retI X e rfl dX10_look_48
    · replace e := zit e c4
      exact zv_pick X [0] rfl (k_X10_look_L17 q hd X  _ e)
-- X5_size
def s_X5_size  (h : zHp) : Option (Int32 × zHp) :=
  some (h.1 24 8, h)
set_option maxRecDepth 100000 in
set_option maxHeartbeats 4000000 in
theorem k_X5_size {l : Launch} {D : va_G} {cy : Nat → ClassId} {S0 d : Nat} (hd : 0 ≤ d) {h : zHp} {q : (Int32 × zHp)} (e : s_X5_size  h = some q) : zCT l D cy S0 d yX5_size cX5_size 1 (some .int) [.ref 24] 117 zRF h (some (.int q.1)) 117 zRF q.2 := by
  unfold s_X5_size at e
  refine zCT_of RX5 rfl zm_X5_size (Nat.le_refl _) (Nat.le_of_ble_eq_true rfl) (fun J X => ?_)
  show J 0 [(0, .ref 24)] [] 117 zRF h
  refine zv_aload_n X dX5_size_0 rfl rfl ?_
  refine zv_getI X zf_RX5_33 zk_24 zb_24 dX5_size_1 ?_
  exact zv_retI X e rfl dX5_size_4
-- X5_has
def s_X5_has_L17 (b0 : Int32) (h : zHp) : Option (Int32 × zHp) :=
  (zbo b0).bind fun u1 =>
  some (b0, h)
def s_X5_has_L16  (h : zHp) : Option (Int32 × zHp) :=
  s_X5_has_L17 (0 : Int32) h
def s_X5_has (a1 : Int32) (h : zHp) : Option (Int32 × zHp) :=
  if a1 < 0 then
    s_X5_has_L16 h
  else
    if (h.1 24 8) ≤ a1 then
      s_X5_has_L16 h
    else
      s_X5_has_L17 (1 : Int32) h
set_option maxRecDepth 100000 in
set_option maxHeartbeats 4000000 in
theorem k_X5_has_L17 {l : Launch} {D : va_G} {cy : Nat → ClassId} {S0 d : Nat} {J : zJ} (q : (Int32 × zHp)) (hd : 0 ≤ d) (X : zOK l D cy S0 d RX5 cX5_has 2 (yX5_has.name == "<init>") 117 117 (some .boolean) (zRT 117 zRF (some (.int q.1)) q.2) J) : ∀ (b0 : Int32) (h : zHp), s_X5_has_L17 b0 h = some q → J 17 [] [.int b0] 117 zRF h := by
  intro b0 h e
  unfold s_X5_has_L17 at e
  refine zb e (fun u gu e => ?_)
  exact zv_retZ X e rfl (zbo_ok gu) dX5_has_17
set_option maxRecDepth 100000 in
set_option maxHeartbeats 4000000 in
theorem k_X5_has_L16 {l : Launch} {D : va_G} {cy : Nat → ClassId} {S0 d : Nat} {J : zJ} (q : (Int32 × zHp)) (hd : 0 ≤ d) (X : zOK l D cy S0 d RX5 cX5_has 2 (yX5_has.name == "<init>") 117 117 (some .boolean) (zRT 117 zRF (some (.int q.1)) q.2) J) : ∀  (h : zHp), s_X5_has_L16  h = some q → J 16 [] [] 117 zRF h := by
  intro  h e
  unfold s_X5_has_L16 at e
  refine zv_iconst (v := (0 : Int32)) X dX5_has_16 zic_0 ?_
  exact k_X5_has_L17 q hd X _ _ e
set_option maxRecDepth 100000 in
set_option maxHeartbeats 4000000 in
theorem k_X5_has {l : Launch} {D : va_G} {cy : Nat → ClassId} {S0 d : Nat} (hd : 0 ≤ d) {a1 : Int32} {h : zHp} {q : (Int32 × zHp)} (e : s_X5_has a1 h = some q) : zCT l D cy S0 d yX5_has cX5_has 2 (some .boolean) [.ref 24, .int a1] 117 zRF h (some (.int q.1)) 117 zRF q.2 := by
  unfold s_X5_has at e
  refine zCT_of RX5 rfl zm_X5_has (Nat.le_refl _) (Nat.le_of_ble_eq_true rfl) (fun J X => ?_)
  show J 0 [(0, .ref 24), (1, .int a1)] [] 117 zRF h
  refine zv_iload_n X dX5_has_0 rfl rfl ?_
  refine zv_if_lt (tgt := 16) X dX5_has_1 (by decide) (fun c1 => ?_) (fun c1 => ?_)
  · replace e := zit e c1
    exact zv_pick X [] rfl (k_X5_has_L16 q hd X  _ e)
  · replace e := zif e c1
    refine zv_iload_n X dX5_has_4 rfl rfl ?_
    refine zv_aload_n X dX5_has_5 rfl rfl ?_
    refine zv_getI X zf_RX5_33 zk_24 zb_24 dX5_has_6 ?_
    refine zv_icmp_ge (tgt := 16) X dX5_has_9 (by decide) (fun c2 => ?_) (fun c2 => ?_)
    · replace e := zit e c2
      exact zv_pick X [] rfl (k_X5_has_L16 q hd X  _ e)
    · replace e := zif e c2
      refine zv_iconst (v := (1 : Int32)) X dX5_has_12 zic_1 ?_
      refine zv_goto (tgt := 17) X dX5_has_13 (by decide) ?_
      exact zv_pick X [] rfl (k_X5_has_L17 q hd X _ _ e)
-- X5_isTakenBack
def s_X5_isTakenBack_L17 (b0 : Int32) (h : zHp) : Option (Int32 × zHp) :=
  (zbo b0).bind fun u1 =>
  some (b0, h)
def s_X5_isTakenBack (a1 : Int32) (h : zHp) : Option (Int32 × zHp) :=
  (zri h 29 80 a1).bind fun v1 =>
  if (1501 : Int32) ≤ v1 then
    s_X5_isTakenBack_L17 (0 : Int32) h
  else
    s_X5_isTakenBack_L17 (1 : Int32) h
set_option maxRecDepth 100000 in
set_option maxHeartbeats 4000000 in
theorem k_X5_isTakenBack_L17 {l : Launch} {D : va_G} {cy : Nat → ClassId} {S0 d : Nat} {J : zJ} (q : (Int32 × zHp)) (hd : 0 ≤ d) (X : zOK l D cy S0 d RX5 cX5_isTakenBack 2 (yX5_isTakenBack.name == "<init>") 117 117 (some .boolean) (zRT 117 zRF (some (.int q.1)) q.2) J) : ∀ (b0 : Int32) (h : zHp), s_X5_isTakenBack_L17 b0 h = some q → J 17 [] [.int b0] 117 zRF h := by
  intro b0 h e
  unfold s_X5_isTakenBack_L17 at e
  refine zb e (fun u gu e => ?_)
  exact zv_retZ X e rfl (zbo_ok gu) dX5_isTakenBack_17
set_option maxRecDepth 100000 in
set_option maxHeartbeats 4000000 in
theorem k_X5_isTakenBack {l : Launch} {D : va_G} {cy : Nat → ClassId} {S0 d : Nat} (hd : 0 ≤ d) {a1 : Int32} {h : zHp} {q : (Int32 × zHp)} (e : s_X5_isTakenBack a1 h = some q) : zCT l D cy S0 d yX5_isTakenBack cX5_isTakenBack 2 (some .boolean) [.ref 24, .int a1] 117 zRF h (some (.int q.1)) 117 zRF q.2 := by
  unfold s_X5_isTakenBack at e
  refine zCT_of RX5 rfl zm_X5_isTakenBack (Nat.le_refl _) (Nat.le_of_ble_eq_true rfl) (fun J X => ?_)
  show J 0 [(0, .ref 24), (1, .int a1)] [] 117 zRF h
  refine zv_aload_n X dX5_isTakenBack_0 rfl rfl ?_
  refine zv_getR X zf_RX5_24 znt_a zk_24 zb_24 zr_24_5 dX5_isTakenBack_1 ?_
  refine zv_iload_n X dX5_isTakenBack_4 rfl rfl ?_
  refine zb e (fun v1 gv1 e => ?_)
  refine zv_iald X zk_29 zl_29 zb_29 dX5_isTakenBack_5 gv1 ?_
  refine zv_sipush (v := (1501 : Int32)) X dX5_isTakenBack_6 zsp_1501 ?_
  refine zv_icmp_ge (tgt := 16) X dX5_isTakenBack_9 (by decide) (fun c2 => ?_) (fun c2 => ?_)
  · replace e := zit e c2
    refine zv_iconst (v := (0 : Int32)) X dX5_isTakenBack_16 zic_0 ?_
    exact zv_pick X [] rfl (k_X5_isTakenBack_L17 q hd X _ _ e)
  · replace e := zif e c2
    refine zv_iconst (v := (1 : Int32)) X dX5_isTakenBack_12 zic_1 ?_
    refine zv_goto (tgt := 17) X dX5_isTakenBack_13 (by decide) ?_
    exact zv_pick X [] rfl (k_X5_isTakenBack_L17 q hd X _ _ e)
-- X5_dayOf
def s_X5_dayOf (a1 : Int32) (h : zHp) : Option (Int32 × zHp) :=
  (zri h 27 80 a1).bind fun v1 =>
  some (v1, h)
set_option maxRecDepth 100000 in
set_option maxHeartbeats 4000000 in
theorem k_X5_dayOf {l : Launch} {D : va_G} {cy : Nat → ClassId} {S0 d : Nat} (hd : 0 ≤ d) {a1 : Int32} {h : zHp} {q : (Int32 × zHp)} (e : s_X5_dayOf a1 h = some q) : zCT l D cy S0 d yX5_dayOf cX5_dayOf 2 (some .int) [.ref 24, .int a1] 117 zRF h (some (.int q.1)) 117 zRF q.2 := by
  unfold s_X5_dayOf at e
  refine zCT_of RX5 rfl zm_X5_dayOf (Nat.le_refl _) (Nat.le_of_ble_eq_true rfl) (fun J X => ?_)
  show J 0 [(0, .ref 24), (1, .int a1)] [] 117 zRF h
  refine zv_aload_n X dX5_dayOf_0 rfl rfl ?_
  refine zv_getR X zf_RX5_18 znt_a zk_24 zb_24 zr_24_3 dX5_dayOf_1 ?_
  refine zv_iload_n X dX5_dayOf_4 rfl rfl ?_
  refine zb e (fun v1 gv1 e => ?_)
  refine zv_iald X zk_27 zl_27 zb_27 dX5_dayOf_5 gv1 ?_
  exact zv_retI X e rfl dX5_dayOf_6
-- X0_isInForce
def s_X0_isInForce_L15 (b0 : Int32) (h : zHp) : Option (Int32 × zHp) :=
  (zbo b0).bind fun u1 =>
  some (b0, h)
def s_X0_isInForce (a1 : Int32) (a2 : Int32) (h : zHp) : Option (Int32 × zHp) :=
  (zri h 9 40 a1).bind fun v1 =>
  if a2 < v1 then
    s_X0_isInForce_L15 (0 : Int32) h
  else
    s_X0_isInForce_L15 (1 : Int32) h
set_option maxRecDepth 100000 in
set_option maxHeartbeats 4000000 in
theorem k_X0_isInForce_L15 {l : Launch} {D : va_G} {cy : Nat → ClassId} {S0 d : Nat} {J : zJ} (q : (Int32 × zHp)) (hd : 0 ≤ d) (X : zOK l D cy S0 d RX0 cX0_isInForce 3 (yX0_isInForce.name == "<init>") 117 117 (some .boolean) (zRT 117 zRF (some (.int q.1)) q.2) J) : ∀ (b0 : Int32) (h : zHp), s_X0_isInForce_L15 b0 h = some q → J 15 [] [.int b0] 117 zRF h := by
  intro b0 h e
  unfold s_X0_isInForce_L15 at e
  refine zb e (fun u gu e => ?_)
  exact zv_retZ X e rfl (zbo_ok gu) dX0_isInForce_15
set_option maxRecDepth 100000 in
set_option maxHeartbeats 4000000 in
theorem k_X0_isInForce {l : Launch} {D : va_G} {cy : Nat → ClassId} {S0 d : Nat} (hd : 0 ≤ d) {a1 : Int32} {a2 : Int32} {h : zHp} {q : (Int32 × zHp)} (e : s_X0_isInForce a1 a2 h = some q) : zCT l D cy S0 d yX0_isInForce cX0_isInForce 3 (some .boolean) [.ref 6, .int a1, .int a2] 117 zRF h (some (.int q.1)) 117 zRF q.2 := by
  unfold s_X0_isInForce at e
  refine zCT_of RX0 rfl zm_X0_isInForce (Nat.le_refl _) (Nat.le_of_ble_eq_true rfl) (fun J X => ?_)
  show J 0 [(0, .ref 6), (1, .int a1), (2, .int a2)] [] 117 zRF h
  refine zv_aload_n X dX0_isInForce_0 rfl rfl ?_
  refine zv_getR X zf_RX0_18 znt_a zk_6 zb_6 zr_6_2 dX0_isInForce_1 ?_
  refine zv_iload_n X dX0_isInForce_4 rfl rfl ?_
  refine zb e (fun v1 gv1 e => ?_)
  refine zv_iald X zk_9 zl_9 zb_9 dX0_isInForce_5 gv1 ?_
  refine zv_iload_n X dX0_isInForce_6 rfl rfl ?_
  refine zv_icmp_gt (tgt := 14) X dX0_isInForce_7 (by decide) (fun c2 => ?_) (fun c2 => ?_)
  · replace e := zit e c2
    refine zv_iconst (v := (0 : Int32)) X dX0_isInForce_14 zic_0 ?_
    exact zv_pick X [] rfl (k_X0_isInForce_L15 q hd X _ _ e)
  · replace e := zif e c2
    refine zv_iconst (v := (1 : Int32)) X dX0_isInForce_10 zic_1 ?_
    refine zv_goto (tgt := 15) X dX0_isInForce_11 (by decide) ?_
    exact zv_pick X [] rfl (k_X0_isInForce_L15 q hd X _ _ e)
-- X5_timesFound
def s_X5_timesFound (a1 : Int32) (a2 : Int32) (h : zHp) : Option (Int32 × zHp) :=
  (zri h 30 3200 ((a1 * (40 : Int32)) + a2)).bind fun v1 =>
  some (v1, h)
set_option maxRecDepth 100000 in
set_option maxHeartbeats 4000000 in
theorem k_X5_timesFound {l : Launch} {D : va_G} {cy : Nat → ClassId} {S0 d : Nat} (hd : 0 ≤ d) {a1 : Int32} {a2 : Int32} {h : zHp} {q : (Int32 × zHp)} (e : s_X5_timesFound a1 a2 h = some q) : zCT l D cy S0 d yX5_timesFound cX5_timesFound 3 (some .int) [.ref 24, .int a1, .int a2] 117 zRF h (some (.int q.1)) 117 zRF q.2 := by
  unfold s_X5_timesFound at e
  refine zCT_of RX5 rfl zm_X5_timesFound (Nat.le_refl _) (Nat.le_of_ble_eq_true rfl) (fun J X => ?_)
  show J 0 [(0, .ref 24), (1, .int a1), (2, .int a2)] [] 117 zRF h
  refine zv_aload_n X dX5_timesFound_0 rfl rfl ?_
  refine zv_getR X zf_RX5_27 znt_a zk_24 zb_24 zr_24_6 dX5_timesFound_1 ?_
  refine zv_iload_n X dX5_timesFound_4 rfl rfl ?_
  refine zv_bipush (v := (40 : Int32)) X dX5_timesFound_5 zbp_40 ?_
  refine zv_imul X dX5_timesFound_7 ?_
  refine zv_iload_n X dX5_timesFound_8 rfl rfl ?_
  refine zv_iadd X dX5_timesFound_9 ?_
  refine zb e (fun v1 gv1 e => ?_)
  refine zv_iald X zk_30 zl_30 zb_30 dX5_timesFound_10 gv1 ?_
  exact zv_retI X e rfl dX5_timesFound_11
-- X5_addFound
def s_X5_addFound (a1 : Int32) (a2 : Int32) (a3 : Int32) (h : zHp) : Option (Int32 × zHp) :=
  (some ((a1 * (40 : Int32)) + a2)).bind fun v1 =>
  (zri h 30 3200 v1).bind fun v2 =>
  (zui h 30 3200 v1 (v2 + a3)).bind fun h3 =>
  (zri h3 30 3200 v1).bind fun v4 =>
  some (v4, h3)
set_option maxRecDepth 100000 in
set_option maxHeartbeats 4000000 in
theorem k_X5_addFound {l : Launch} {D : va_G} {cy : Nat → ClassId} {S0 d : Nat} (hd : 0 ≤ d) {a1 : Int32} {a2 : Int32} {a3 : Int32} {h : zHp} {q : (Int32 × zHp)} (e : s_X5_addFound a1 a2 a3 h = some q) : zCT l D cy S0 d yX5_addFound cX5_addFound 5 (some .int) [.ref 24, .int a1, .int a2, .int a3] 117 zRF h (some (.int q.1)) 117 zRF q.2 := by
  unfold s_X5_addFound at e
  refine zCT_of RX5 rfl zm_X5_addFound (Nat.le_refl _) (Nat.le_of_ble_eq_true rfl) (fun J X => ?_)
  show J 0 [(0, .ref 24), (1, .int a1), (2, .int a2), (3, .int a3)] [] 117 zRF h
  refine zv_iload_n X dX5_addFound_0 rfl rfl ?_
  refine zv_bipush (v := (40 : Int32)) X dX5_addFound_1 zbp_40 ?_
  refine zv_imul X dX5_addFound_3 ?_
  refine zv_iload_n X dX5_addFound_4 rfl rfl ?_
  refine zv_iadd X dX5_addFound_5 ?_
  refine zb e (fun v1 gv1 e => ?_)
  refine zv_nmI X gv1 ?_
  refine zv_istore (i := 4) (lv' := [(4, .int v1), (0, .ref 24), (1, .int a1), (2, .int a2), (3, .int a3)]) X dX5_addFound_6 (Nat.le_of_ble_eq_true rfl) rfl ?_
  refine zv_aload_n X dX5_addFound_8 rfl rfl ?_
  refine zv_getR X zf_RX5_27 znt_a zk_24 zb_24 zr_24_6 dX5_addFound_9 ?_
  refine zv_iload X dX5_addFound_12 rfl ?_
  refine zv_dup2 X dX5_addFound_14 ?_
  refine zb e (fun v2 gv2 e => ?_)
  refine zv_iald X zk_30 zl_30 zb_30 dX5_addFound_15 gv2 ?_
  refine zv_iload_n X dX5_addFound_16 rfl rfl ?_
  refine zv_iadd X dX5_addFound_17 ?_
  refine zb e (fun h3 gh3 e => ?_)
  refine zv_iast X zk_30 zl_30 zb_30 dX5_addFound_18 gh3 ?_
  refine zv_aload_n X dX5_addFound_19 rfl rfl ?_
  refine zv_getR X zf_RX5_27 znt_a zk_24 zb_24 zr_24_6 dX5_addFound_20 ?_
  refine zv_iload X dX5_addFound_23 rfl ?_
  refine zb e (fun v4 gv4 e => ?_)
  refine zv_iald X zk_30 zl_30 zb_30 dX5_addFound_25 gv4 ?_
  exact zv_retI X e rfl dX5_addFound_26
-- X9_find
def s_X9_find_L49  (h : zHp) : Option (Int32 × zHp) :=
  (s_X9_refused (-3 : Int32) h).bind fun q1 =>
  some (q1.1, q1.2)
def s_X9_find_L116  (h : zHp) : Option (Int32 × zHp) :=
  (s_X9_refused (-6 : Int32) h).bind fun q1 =>
  some (q1.1, q1.2)
def s_X9_find (a1 : Int32) (a2 : Int32) (h : zHp) : Option (Int32 × zHp) :=
  (s_X0_has a1 h).bind fun q1 =>
  if q1.1 = 0 then
    (s_X9_refused (-1 : Int32) q1.2).bind fun q19 =>
    some (q19.1, q19.2)
  else
    (s_X5_size q1.2).bind fun q3 =>
    (some (q3.1 - (1 : Int32))).bind fun v4 =>
    (s_X5_has v4 q3.2).bind fun q5 =>
    if q5.1 = 0 then
      s_X9_find_L49 q5.2
    else
      (s_X5_isTakenBack v4 q5.2).bind fun q7 =>
      if q7.1 = 0 then
        (s_X5_dayOf v4 q7.2).bind fun q9 =>
        (s_X0_isInForce a1 q9.1 q9.2).bind fun q10 =>
        if q10.1 = 0 then
          (s_X9_refused (-3 : Int32) q10.2).bind fun q18 =>
          some (q18.1, q18.2)
        else
          if (1 : Int32) ≤ a2 then
            if (9 : Int32) < a2 then
              s_X9_find_L116 q10.2
            else
              (s_X5_timesFound v4 a1 q10.2).bind fun q14 =>
              if a2 ≤ ((99 : Int32) - q14.1) then
                (s_X5_addFound v4 a1 a2 q14.2).bind fun q16 =>
                some (q16.1, q16.2)
              else
                s_X9_find_L116 q14.2
          else
            (s_X9_refused (-4 : Int32) q10.2).bind fun q17 =>
            some (q17.1, q17.2)
      else
        s_X9_find_L49 q7.2
set_option maxRecDepth 100000 in
set_option maxHeartbeats 4000000 in
theorem k_X9_find_L49 {l : Launch} {D : va_G} {cy : Nat → ClassId} {S0 d : Nat} {J : zJ} (q : (Int32 × zHp)) (hd : 1 ≤ d) (X : zOK l D cy S0 d RX9 cX9_find 4 (yX9_find.name == "<init>") 117 117 (some .int) (zRT 117 zRF (some (.int q.1)) q.2) J) : ∀  (h : zHp), s_X9_find_L49  h = some q → J 49 [(0, .ref 0)] [] 117 zRF h := by
  intro  h e
  unfold s_X9_find_L49 at e
  refine zv_aload_n X dX9_find_49 rfl rfl ?_
  refine zv_bipush (v := (-3 : Int32)) X dX9_find_50 zbp_m3 ?_
  refine zb e (fun q1 gq1 e => ?_)
  refine zv_callV (stk := [.int (-3 : Int32), .ref 0]) (as := [.int (-3 : Int32)]) (st := []) (k := 0) X zl_RX9_108 zm_X9_refused (k_X9_refused (d := d - 1) (by omega) gq1) (by omega) zb_0 (by rw [zk_0]; rfl) rfl rfl (Nat.le_of_ble_eq_true rfl) (Nat.le_refl _) rfl dX9_find_52 ?_
  show J 55 [(0, .ref 0)] [.int q1.1] 117 zRF q1.2
  exact zv_retI X e rfl dX9_find_55
set_option maxRecDepth 100000 in
set_option maxHeartbeats 4000000 in
theorem k_X9_find_L116 {l : Launch} {D : va_G} {cy : Nat → ClassId} {S0 d : Nat} {J : zJ} (q : (Int32 × zHp)) (hd : 1 ≤ d) (X : zOK l D cy S0 d RX9 cX9_find 4 (yX9_find.name == "<init>") 117 117 (some .int) (zRT 117 zRF (some (.int q.1)) q.2) J) : ∀  (h : zHp), s_X9_find_L116  h = some q → J 116 [(0, .ref 0)] [] 117 zRF h := by
  intro  h e
  unfold s_X9_find_L116 at e
  refine zv_aload_n X dX9_find_116 rfl rfl ?_
  refine zv_bipush (v := (-6 : Int32)) X dX9_find_117 zbp_m6 ?_
  refine zb e (fun q1 gq1 e => ?_)
  refine zv_callV (stk := [.int (-6 : Int32), .ref 0]) (as := [.int (-6 : Int32)]) (st := []) (k := 0) X zl_RX9_108 zm_X9_refused (k_X9_refused (d := d - 1) (by omega) gq1) (by omega) zb_0 (by rw [zk_0]; rfl) rfl rfl (Nat.le_of_ble_eq_true rfl) (Nat.le_refl _) rfl dX9_find_119 ?_
  show J 122 [(0, .ref 0)] [.int q1.1] 117 zRF q1.2
  exact zv_retI X e rfl dX9_find_122
set_option maxRecDepth 100000 in
set_option maxHeartbeats 4000000 in
theorem k_X9_find {l : Launch} {D : va_G} {cy : Nat → ClassId} {S0 d : Nat} (hd : 1 ≤ d) {a1 : Int32} {a2 : Int32} {h : zHp} {q : (Int32 × zHp)} (e : s_X9_find a1 a2 h = some q) : zCT l D cy S0 d yX9_find cX9_find 4 (some .int) [.ref 0, .int a1, .int a2] 117 zRF h (some (.int q.1)) 117 zRF q.2 := by
  unfold s_X9_find at e
  refine zCT_of RX9 rfl zm_X9_find (Nat.le_refl _) (Nat.le_of_ble_eq_true rfl) (fun J X => ?_)
  show J 0 [(0, .ref 0), (1, .int a1), (2, .int a2)] [] 117 zRF h
  refine zv_aload_n X dX9_find_0 rfl rfl ?_
  refine zv_getR X zf_RX9_29 znt_o zk_0 zb_0 zr_0_5 dX9_find_1 ?_
  refine zv_iload_n X dX9_find_4 rfl rfl ?_
  refine zb e (fun q1 gq1 e => ?_)
  refine zv_callV (stk := [.int a1, .ref 6]) (as := [.int a1]) (st := []) (k := 6) X zl_RX9_124 zm_X0_has (k_X0_has (d := d - 1) (by omega) gq1) (by omega) zb_6 (by rw [zk_6]; rfl) rfl rfl (Nat.le_of_ble_eq_true rfl) (Nat.le_refl _) rfl dX9_find_5 ?_
  show J 8 [(0, .ref 0), (1, .int a1), (2, .int a2)] [.int q1.1] 117 zRF q1.2
  refine zv_if_ne (tgt := 17) X dX9_find_8 (by decide) (fun c2 => ?_) (fun c2 => ?_)
  · replace e := zif e c2
    refine zv_aload_n X dX9_find_17 rfl rfl ?_
    refine zv_getR X zf_RX9_45 znt_o zk_0 zb_0 zr_0_7 dX9_find_18 ?_
    refine zb e (fun q3 gq3 e => ?_)
    refine zv_callV (stk := [.ref 24]) (as := []) (st := []) (k := 24) X zl_RX9_164 zm_X5_size (k_X5_size (d := d - 1) (by omega) gq3) (by omega) zb_24 (by rw [zk_24]; rfl) rfl rfl (Nat.le_of_ble_eq_true rfl) (Nat.le_refl _) rfl dX9_find_21 ?_
    show J 24 [(0, .ref 0), (1, .int a1), (2, .int a2)] [.int q3.1] 117 zRF q3.2
    refine zv_iconst (v := (1 : Int32)) X dX9_find_24 zic_1 ?_
    refine zv_isub X dX9_find_25 ?_
    refine zb e (fun v4 gv4 e => ?_)
    refine zv_nmI X gv4 ?_
    refine zv_istore_n (i := 3) (lv' := [(3, .int v4), (0, .ref 0), (1, .int a1), (2, .int a2)]) X dX9_find_26 rfl (Nat.le_of_ble_eq_true rfl) rfl ?_
    refine zv_aload_n X dX9_find_27 rfl rfl ?_
    refine zv_getR X zf_RX9_45 znt_o zk_0 zb_0 zr_0_7 dX9_find_28 ?_
    refine zv_iload_n X dX9_find_31 rfl rfl ?_
    refine zb e (fun q5 gq5 e => ?_)
    refine zv_callV (stk := [.int v4, .ref 24]) (as := [.int v4]) (st := []) (k := 24) X zl_RX9_168 zm_X5_has (k_X5_has (d := d - 1) (by omega) gq5) (by omega) zb_24 (by rw [zk_24]; rfl) rfl rfl (Nat.le_of_ble_eq_true rfl) (Nat.le_refl _) rfl dX9_find_32 ?_
    show J 35 [(3, .int v4), (0, .ref 0), (1, .int a1), (2, .int a2)] [.int q5.1] 117 zRF q5.2
    refine zv_if_eq (tgt := 49) X dX9_find_35 (by decide) (fun c6 => ?_) (fun c6 => ?_)
    · replace e := zit e c6
      exact zv_pick X [1] rfl (k_X9_find_L49 q hd X  _ e)
    · replace e := zif e c6
      refine zv_aload_n X dX9_find_38 rfl rfl ?_
      refine zv_getR X zf_RX9_45 znt_o zk_0 zb_0 zr_0_7 dX9_find_39 ?_
      refine zv_iload_n X dX9_find_42 rfl rfl ?_
      refine zb e (fun q7 gq7 e => ?_)
      refine zv_callV (stk := [.int v4, .ref 24]) (as := [.int v4]) (st := []) (k := 24) X zl_RX9_169 zm_X5_isTakenBack (k_X5_isTakenBack (d := d - 1) (by omega) gq7) (by omega) zb_24 (by rw [zk_24]; rfl) rfl rfl (Nat.le_of_ble_eq_true rfl) (Nat.le_refl _) rfl dX9_find_43 ?_
      show J 46 [(3, .int v4), (0, .ref 0), (1, .int a1), (2, .int a2)] [.int q7.1] 117 zRF q7.2
      refine zv_if_eq (tgt := 56) X dX9_find_46 (by decide) (fun c8 => ?_) (fun c8 => ?_)
      · replace e := zit e c8
        refine zv_aload_n X dX9_find_56 rfl rfl ?_
        refine zv_getR X zf_RX9_29 znt_o zk_0 zb_0 zr_0_5 dX9_find_57 ?_
        refine zv_iload_n X dX9_find_60 rfl rfl ?_
        refine zv_aload_n X dX9_find_61 rfl rfl ?_
        refine zv_getR X zf_RX9_45 znt_o zk_0 zb_0 zr_0_7 dX9_find_62 ?_
        refine zv_iload_n X dX9_find_65 rfl rfl ?_
        refine zb e (fun q9 gq9 e => ?_)
        refine zv_callV (stk := [.int v4, .ref 24, .int a1, .ref 6]) (as := [.int v4]) (st := [.int a1, .ref 6]) (k := 24) X zl_RX9_172 zm_X5_dayOf (k_X5_dayOf (d := d - 1) (by omega) gq9) (by omega) zb_24 (by rw [zk_24]; rfl) rfl rfl (Nat.le_of_ble_eq_true rfl) (Nat.le_refl _) rfl dX9_find_66 ?_
        show J 69 [(3, .int v4), (0, .ref 0), (1, .int a1), (2, .int a2)] [.int q9.1, .int a1, .ref 6] 117 zRF q9.2
        refine zb e (fun q10 gq10 e => ?_)
        refine zv_callV (stk := [.int q9.1, .int a1, .ref 6]) (as := [.int a1, .int q9.1]) (st := []) (k := 6) X zl_RX9_175 zm_X0_isInForce (k_X0_isInForce (d := d - 1) (by omega) gq10) (by omega) zb_6 (by rw [zk_6]; rfl) rfl rfl (Nat.le_of_ble_eq_true rfl) (Nat.le_refl _) rfl dX9_find_69 ?_
        show J 72 [(3, .int v4), (0, .ref 0), (1, .int a1), (2, .int a2)] [.int q10.1] 117 zRF q10.2
        refine zv_if_ne (tgt := 82) X dX9_find_72 (by decide) (fun c11 => ?_) (fun c11 => ?_)
        · replace e := zif e c11
          refine zv_iload_n X dX9_find_82 rfl rfl ?_
          refine zv_iconst (v := (1 : Int32)) X dX9_find_83 zic_1 ?_
          refine zv_icmp_ge (tgt := 94) X dX9_find_84 (by decide) (fun c12 => ?_) (fun c12 => ?_)
          · replace e := zit e c12
            refine zv_iload_n X dX9_find_94 rfl rfl ?_
            refine zv_bipush (v := (9 : Int32)) X dX9_find_95 zbp_9 ?_
            refine zv_icmp_gt (tgt := 116) X dX9_find_97 (by decide) (fun c13 => ?_) (fun c13 => ?_)
            · replace e := zit e c13
              exact zv_pick X [1] rfl (k_X9_find_L116 q hd X  _ e)
            · replace e := zif e c13
              refine zv_iload_n X dX9_find_100 rfl rfl ?_
              refine zv_bipush (v := (99 : Int32)) X dX9_find_101 zbp_99 ?_
              refine zv_aload_n X dX9_find_103 rfl rfl ?_
              refine zv_getR X zf_RX9_45 znt_o zk_0 zb_0 zr_0_7 dX9_find_104 ?_
              refine zv_iload_n X dX9_find_107 rfl rfl ?_
              refine zv_iload_n X dX9_find_108 rfl rfl ?_
              refine zb e (fun q14 gq14 e => ?_)
              refine zv_callV (stk := [.int a1, .int v4, .ref 24, .int (99 : Int32), .int a2]) (as := [.int v4, .int a1]) (st := [.int (99 : Int32), .int a2]) (k := 24) X zl_RX9_178 zm_X5_timesFound (k_X5_timesFound (d := d - 1) (by omega) gq14) (by omega) zb_24 (by rw [zk_24]; rfl) rfl rfl (Nat.le_of_ble_eq_true rfl) (Nat.le_refl _) rfl dX9_find_109 ?_
              show J 112 [(3, .int v4), (0, .ref 0), (1, .int a1), (2, .int a2)] [.int q14.1, .int (99 : Int32), .int a2] 117 zRF q14.2
              refine zv_isub X dX9_find_112 ?_
              refine zv_icmp_le (tgt := 123) X dX9_find_113 (by decide) (fun c15 => ?_) (fun c15 => ?_)
              · replace e := zit e c15
                refine zv_aload_n X dX9_find_123 rfl rfl ?_
                refine zv_getR X zf_RX9_45 znt_o zk_0 zb_0 zr_0_7 dX9_find_124 ?_
                refine zv_iload_n X dX9_find_127 rfl rfl ?_
                refine zv_iload_n X dX9_find_128 rfl rfl ?_
                refine zv_iload_n X dX9_find_129 rfl rfl ?_
                refine zb e (fun q16 gq16 e => ?_)
                refine zv_callV (stk := [.int a2, .int a1, .int v4, .ref 24]) (as := [.int v4, .int a1, .int a2]) (st := []) (k := 24) X zl_RX9_181 zm_X5_addFound (k_X5_addFound (d := d - 1) (by omega) gq16) (by omega) zb_24 (by rw [zk_24]; rfl) rfl rfl (Nat.le_of_ble_eq_true rfl) (Nat.le_refl _) rfl dX9_find_130 ?_
                show J 133 [(3, .int v4), (0, .ref 0), (1, .int a1), (2, .int a2)] [.int q16.1] 117 zRF q16.2
                exact zv_retI X e rfl dX9_find_133
              · replace e := zif e c15
                exact zv_pick X [1] rfl (k_X9_find_L116 q hd X  _ e)
          · replace e := zif e c12
            refine zv_aload_n X dX9_find_87 rfl rfl ?_
            refine zv_bipush (v := (-4 : Int32)) X dX9_find_88 zbp_m4 ?_
            refine zb e (fun q17 gq17 e => ?_)
            refine zv_callV (stk := [.int (-4 : Int32), .ref 0]) (as := [.int (-4 : Int32)]) (st := []) (k := 0) X zl_RX9_108 zm_X9_refused (k_X9_refused (d := d - 1) (by omega) gq17) (by omega) zb_0 (by rw [zk_0]; rfl) rfl rfl (Nat.le_of_ble_eq_true rfl) (Nat.le_refl _) rfl dX9_find_90 ?_
            show J 93 [(3, .int v4), (0, .ref 0), (1, .int a1), (2, .int a2)] [.int q17.1] 117 zRF q17.2
            exact zv_retI X e rfl dX9_find_93
        · replace e := zit e c11
          refine zv_aload_n X dX9_find_75 rfl rfl ?_
          refine zv_bipush (v := (-3 : Int32)) X dX9_find_76 zbp_m3 ?_
          refine zb e (fun q18 gq18 e => ?_)
          refine zv_callV (stk := [.int (-3 : Int32), .ref 0]) (as := [.int (-3 : Int32)]) (st := []) (k := 0) X zl_RX9_108 zm_X9_refused (k_X9_refused (d := d - 1) (by omega) gq18) (by omega) zb_0 (by rw [zk_0]; rfl) rfl rfl (Nat.le_of_ble_eq_true rfl) (Nat.le_refl _) rfl dX9_find_78 ?_
          show J 81 [(3, .int v4), (0, .ref 0), (1, .int a1), (2, .int a2)] [.int q18.1] 117 zRF q18.2
          exact zv_retI X e rfl dX9_find_81
      · replace e := zif e c8
        exact zv_pick X [1] rfl (k_X9_find_L49 q hd X  _ e)
  · replace e := zit e c2
    refine zv_aload_n X dX9_find_11 rfl rfl ?_
    refine zv_iconst (v := (-1 : Int32)) X dX9_find_12 zic_m1 ?_
    refine zb e (fun q19 gq19 e => ?_)
    refine zv_callV (stk := [.int (-1 : Int32), .ref 0]) (as := [.int (-1 : Int32)]) (st := []) (k := 0) X zl_RX9_108 zm_X9_refused (k_X9_refused (d := d - 1) (by omega) gq19) (by omega) zb_0 (by rw [zk_0]; rfl) rfl rfl (Nat.le_of_ble_eq_true rfl) (Nat.le_refl _) rfl dX9_find_13 ?_
    show J 16 [(0, .ref 0), (1, .int a1), (2, .int a2)] [.int q19.1] 117 zRF q19.2
    exact zv_retI X e rfl dX9_find_16
-- X10_find
def s_X10_find_L55  (h : zHp) : Option (Int32 × zHp) :=
  (s_X10_refuse (-3 : Int32) h).bind fun q1 =>
  some (q1.1, q1.2)
def s_X10_find_L105  (h : zHp) : Option (Int32 × zHp) :=
  (s_X10_refuse (-6 : Int32) h).bind fun q1 =>
  some (q1.1, q1.2)
def s_X10_find (a1 : Int32) (a2 : Int32) (h : zHp) : Option (Int32 × zHp) :=
  (s_X10_isCode a1 h).bind fun q1 =>
  if q1.1 = 0 then
    (s_X10_refuse (-1 : Int32) q1.2).bind fun q18 =>
    some (q18.1, q18.2)
  else
    if (q1.2.1 67 17) = 0 then
      s_X10_find_L55 q1.2
    else
      (zri q1.2 86 80 ((q1.2.1 67 17) - (1 : Int32))).bind fun v4 =>
      if 0 ≤ v4 then
        s_X10_find_L55 q1.2
      else
        (zri q1.2 70 40 a1).bind fun v6 =>
        (zri q1.2 84 80 ((q1.2.1 67 17) - (1 : Int32))).bind fun v7 =>
        if v6 ≤ v7 then
          if (1 : Int32) ≤ a2 then
            (some (((40 : Int32) * ((q1.2.1 67 17) - (1 : Int32))) + a1)).bind fun v10 =>
            if (9 : Int32) < a2 then
              s_X10_find_L105 q1.2
            else
              (zri q1.2 87 3200 v10).bind fun v12 =>
              if (v12 + a2) ≤ (99 : Int32) then
                (zri q1.2 87 3200 v10).bind fun v14 =>
                (zui q1.2 87 3200 v10 (v14 + a2)).bind fun h15 =>
                (zri h15 87 3200 v10).bind fun v16 =>
                some (v16, h15)
              else
                s_X10_find_L105 q1.2
          else
            (s_X10_refuse (-4 : Int32) q1.2).bind fun q17 =>
            some (q17.1, q17.2)
        else
          s_X10_find_L55 q1.2
set_option maxRecDepth 100000 in
set_option maxHeartbeats 4000000 in
theorem k_X10_find_L55 {l : Launch} {D : va_G} {cy : Nat → ClassId} {S0 d : Nat} {J : zJ} (q : (Int32 × zHp)) (hd : 2 ≤ d) (X : zOK l D cy S0 d RX10 cX10_find 4 (yX10_find.name == "<init>") 117 117 (some .int) (zRT 117 zRF (some (.int q.1)) q.2) J) : ∀  (h : zHp), s_X10_find_L55  h = some q → J 55 [(0, .ref 67)] [] 117 zRF h := by
  intro  h e
  unfold s_X10_find_L55 at e
  refine zv_aload_n X dX10_find_55 rfl rfl ?_
  refine zv_bipush (v := (-3 : Int32)) X dX10_find_56 zbp_m3 ?_
  refine zb e (fun q1 gq1 e => ?_)
  refine zv_callV (stk := [.int (-3 : Int32), .ref 67]) (as := [.int (-3 : Int32)]) (st := []) (k := 67) X zl_RX10_175 zm_X10_refuse (k_X10_refuse (d := d - 1) (by omega) gq1) (by omega) zb_67 (by rw [zk_67]; rfl) rfl rfl (Nat.le_of_ble_eq_true rfl) (Nat.le_refl _) rfl dX10_find_58 ?_
  show J 61 [(0, .ref 67)] [.int q1.1] 117 zRF q1.2
  exact zv_retI X e rfl dX10_find_61
set_option maxRecDepth 100000 in
set_option maxHeartbeats 4000000 in
theorem k_X10_find_L105 {l : Launch} {D : va_G} {cy : Nat → ClassId} {S0 d : Nat} {J : zJ} (q : (Int32 × zHp)) (hd : 2 ≤ d) (X : zOK l D cy S0 d RX10 cX10_find 4 (yX10_find.name == "<init>") 117 117 (some .int) (zRT 117 zRF (some (.int q.1)) q.2) J) : ∀  (h : zHp), s_X10_find_L105  h = some q → J 105 [(0, .ref 67)] [] 117 zRF h := by
  intro  h e
  unfold s_X10_find_L105 at e
  refine zv_aload_n X dX10_find_105 rfl rfl ?_
  refine zv_bipush (v := (-6 : Int32)) X dX10_find_106 zbp_m6 ?_
  refine zb e (fun q1 gq1 e => ?_)
  refine zv_callV (stk := [.int (-6 : Int32), .ref 67]) (as := [.int (-6 : Int32)]) (st := []) (k := 67) X zl_RX10_175 zm_X10_refuse (k_X10_refuse (d := d - 1) (by omega) gq1) (by omega) zb_67 (by rw [zk_67]; rfl) rfl rfl (Nat.le_of_ble_eq_true rfl) (Nat.le_refl _) rfl dX10_find_108 ?_
  show J 111 [(0, .ref 67)] [.int q1.1] 117 zRF q1.2
  exact zv_retI X e rfl dX10_find_111
set_option maxRecDepth 100000 in
set_option maxHeartbeats 4000000 in
theorem k_X10_find {l : Launch} {D : va_G} {cy : Nat → ClassId} {S0 d : Nat} (hd : 2 ≤ d) {a1 : Int32} {a2 : Int32} {h : zHp} {q : (Int32 × zHp)} (e : s_X10_find a1 a2 h = some q) : zCT l D cy S0 d yX10_find cX10_find 4 (some .int) [.ref 67, .int a1, .int a2] 117 zRF h (some (.int q.1)) 117 zRF q.2 := by
  unfold s_X10_find at e
  refine zCT_of RX10 rfl zm_X10_find (Nat.le_refl _) (Nat.le_of_ble_eq_true rfl) (fun J X => ?_)
  show J 0 [(0, .ref 67), (1, .int a1), (2, .int a2)] [] 117 zRF h
  refine zv_aload_n X dX10_find_0 rfl rfl ?_
  refine zv_iload_n X dX10_find_1 rfl rfl ?_
  refine zb e (fun q1 gq1 e => ?_)
  refine zv_callV (stk := [.int a1, .ref 67]) (as := [.int a1]) (st := []) (k := 67) X zl_RX10_185 zm_X10_isCode (k_X10_isCode (d := d - 1) (by omega) gq1) (by omega) zb_67 (by rw [zk_67]; rfl) rfl rfl (Nat.le_of_ble_eq_true rfl) (Nat.le_refl _) rfl dX10_find_2 ?_
  show J 5 [(0, .ref 67), (1, .int a1), (2, .int a2)] [.int q1.1] 117 zRF q1.2
  refine zv_if_ne (tgt := 14) X dX10_find_5 (by decide) (fun c2 => ?_) (fun c2 => ?_)
  · replace e := zif e c2
    refine zv_aload_n X dX10_find_14 rfl rfl ?_
    refine zv_getI X zf_RX10_172 zk_67 zb_67 dX10_find_15 ?_
    refine zv_if_eq (tgt := 55) X dX10_find_18 (by decide) (fun c3 => ?_) (fun c3 => ?_)
    · replace e := zit e c3
      exact zv_pick X [0] rfl (k_X10_find_L55 q hd X  _ e)
    · replace e := zif e c3
      refine zv_aload_n X dX10_find_21 rfl rfl ?_
      refine zv_getR X zf_RX10_65 znt_a zk_67 zb_67 zr_67_22 dX10_find_22 ?_
      refine zv_aload_n X dX10_find_25 rfl rfl ?_
      refine zv_getI X zf_RX10_172 zk_67 zb_67 dX10_find_26 ?_
      refine zv_iconst (v := (1 : Int32)) X dX10_find_29 zic_1 ?_
      refine zv_isub X dX10_find_30 ?_
      refine zb e (fun v4 gv4 e => ?_)
      refine zv_iald X zk_86 zl_86 zb_86 dX10_find_31 gv4 ?_
      refine zv_if_ge (tgt := 55) X dX10_find_32 (by decide) (fun c5 => ?_) (fun c5 => ?_)
      · replace e := zit e c5
        exact zv_pick X [0] rfl (k_X10_find_L55 q hd X  _ e)
      · replace e := zif e c5
        refine zv_aload_n X dX10_find_35 rfl rfl ?_
        refine zv_getR X zf_RX10_16 znt_a zk_67 zb_67 zr_67_4 dX10_find_36 ?_
        refine zv_iload_n X dX10_find_39 rfl rfl ?_
        refine zb e (fun v6 gv6 e => ?_)
        refine zv_iald X zk_70 zl_70 zb_70 dX10_find_40 gv6 ?_
        refine zv_aload_n X dX10_find_41 rfl rfl ?_
        refine zv_getR X zf_RX10_59 znt_a zk_67 zb_67 zr_67_20 dX10_find_42 ?_
        refine zv_aload_n X dX10_find_45 rfl rfl ?_
        refine zv_getI X zf_RX10_172 zk_67 zb_67 dX10_find_46 ?_
        refine zv_iconst (v := (1 : Int32)) X dX10_find_49 zic_1 ?_
        refine zv_isub X dX10_find_50 ?_
        refine zb e (fun v7 gv7 e => ?_)
        refine zv_iald X zk_84 zl_84 zb_84 dX10_find_51 gv7 ?_
        refine zv_icmp_le (tgt := 62) X dX10_find_52 (by decide) (fun c8 => ?_) (fun c8 => ?_)
        · replace e := zit e c8
          refine zv_iload_n X dX10_find_62 rfl rfl ?_
          refine zv_iconst (v := (1 : Int32)) X dX10_find_63 zic_1 ?_
          refine zv_icmp_ge (tgt := 74) X dX10_find_64 (by decide) (fun c9 => ?_) (fun c9 => ?_)
          · replace e := zit e c9
            refine zv_bipush (v := (40 : Int32)) X dX10_find_74 zbp_40 ?_
            refine zv_aload_n X dX10_find_76 rfl rfl ?_
            refine zv_getI X zf_RX10_172 zk_67 zb_67 dX10_find_77 ?_
            refine zv_iconst (v := (1 : Int32)) X dX10_find_80 zic_1 ?_
            refine zv_isub X dX10_find_81 ?_
            refine zv_imul X dX10_find_82 ?_
            refine zv_iload_n X dX10_find_83 rfl rfl ?_
            refine zv_iadd X dX10_find_84 ?_
            refine zb e (fun v10 gv10 e => ?_)
            refine zv_nmI X gv10 ?_
            refine zv_istore_n (i := 3) (lv' := [(3, .int v10), (0, .ref 67), (1, .int a1), (2, .int a2)]) X dX10_find_85 rfl (Nat.le_of_ble_eq_true rfl) rfl ?_
            refine zv_iload_n X dX10_find_86 rfl rfl ?_
            refine zv_bipush (v := (9 : Int32)) X dX10_find_87 zbp_9 ?_
            refine zv_icmp_gt (tgt := 105) X dX10_find_89 (by decide) (fun c11 => ?_) (fun c11 => ?_)
            · replace e := zit e c11
              exact zv_pick X [1] rfl (k_X10_find_L105 q hd X  _ e)
            · replace e := zif e c11
              refine zv_aload_n X dX10_find_92 rfl rfl ?_
              refine zv_getR X zf_RX10_68 znt_a zk_67 zb_67 zr_67_23 dX10_find_93 ?_
              refine zv_iload_n X dX10_find_96 rfl rfl ?_
              refine zb e (fun v12 gv12 e => ?_)
              refine zv_iald X zk_87 zl_87 zb_87 dX10_find_97 gv12 ?_
              refine zv_iload_n X dX10_find_98 rfl rfl ?_
              refine zv_iadd X dX10_find_99 ?_
              refine zv_bipush (v := (99 : Int32)) X dX10_find_100 zbp_99 ?_
              refine zv_icmp_le (tgt := 112) X dX10_find_102 (by decide) (fun c13 => ?_) (fun c13 => ?_)
              · replace e := zit e c13
                refine zv_aload_n X dX10_find_112 rfl rfl ?_
                refine zv_getR X zf_RX10_68 znt_a zk_67 zb_67 zr_67_23 dX10_find_113 ?_
                refine zv_iload_n X dX10_find_116 rfl rfl ?_
                refine zv_dup2 X dX10_find_117 ?_
                refine zb e (fun v14 gv14 e => ?_)
                refine zv_iald X zk_87 zl_87 zb_87 dX10_find_118 gv14 ?_
                refine zv_iload_n X dX10_find_119 rfl rfl ?_
                refine zv_iadd X dX10_find_120 ?_
                refine zb e (fun h15 gh15 e => ?_)
                refine zv_iast X zk_87 zl_87 zb_87 dX10_find_121 gh15 ?_
                refine zv_aload_n X dX10_find_122 rfl rfl ?_
                refine zv_getR X zf_RX10_68 znt_a zk_67 zb_67 zr_67_23 dX10_find_123 ?_
                refine zv_iload_n X dX10_find_126 rfl rfl ?_
                refine zb e (fun v16 gv16 e => ?_)
                refine zv_iald X zk_87 zl_87 zb_87 dX10_find_127 gv16 ?_
                exact zv_retI X e rfl dX10_find_128
              · replace e := zif e c13
                exact zv_pick X [1] rfl (k_X10_find_L105 q hd X  _ e)
          · replace e := zif e c9
            refine zv_aload_n X dX10_find_67 rfl rfl ?_
            refine zv_bipush (v := (-4 : Int32)) X dX10_find_68 zbp_m4 ?_
            refine zb e (fun q17 gq17 e => ?_)
            refine zv_callV (stk := [.int (-4 : Int32), .ref 67]) (as := [.int (-4 : Int32)]) (st := []) (k := 67) X zl_RX10_175 zm_X10_refuse (k_X10_refuse (d := d - 1) (by omega) gq17) (by omega) zb_67 (by rw [zk_67]; rfl) rfl rfl (Nat.le_of_ble_eq_true rfl) (Nat.le_refl _) rfl dX10_find_70 ?_
            show J 73 [(0, .ref 67), (1, .int a1), (2, .int a2)] [.int q17.1] 117 zRF q17.2
            exact zv_retI X e rfl dX10_find_73
        · replace e := zif e c8
          exact zv_pick X [0] rfl (k_X10_find_L55 q hd X  _ e)
  · replace e := zit e c2
    refine zv_aload_n X dX10_find_8 rfl rfl ?_
    refine zv_iconst (v := (-1 : Int32)) X dX10_find_9 zic_m1 ?_
    refine zb e (fun q18 gq18 e => ?_)
    refine zv_callV (stk := [.int (-1 : Int32), .ref 67]) (as := [.int (-1 : Int32)]) (st := []) (k := 67) X zl_RX10_175 zm_X10_refuse (k_X10_refuse (d := d - 1) (by omega) gq18) (by omega) zb_67 (by rw [zk_67]; rfl) rfl rfl (Nat.le_of_ble_eq_true rfl) (Nat.le_refl _) rfl dX10_find_10 ?_
    show J 13 [(0, .ref 67), (1, .int a1), (2, .int a2)] [.int q18.1] 117 zRF q18.2
    exact zv_retI X e rfl dX10_find_13
-- X5_takeBack
def s_X5_takeBack (a1 : Int32) (a2 : Int32) (h : zHp) : Option zHp :=
  (zui h 29 80 a1 a2).bind fun h1 =>
  (some ((h1.1 24 9) + (1 : Int32))).bind fun v2 =>
  (zpi h1 24 9 v2).bind fun h3 =>
  some h3
set_option maxRecDepth 100000 in
set_option maxHeartbeats 4000000 in
theorem k_X5_takeBack {l : Launch} {D : va_G} {cy : Nat → ClassId} {S0 d : Nat} (hd : 0 ≤ d) {a1 : Int32} {a2 : Int32} {h : zHp} {q : zHp} (e : s_X5_takeBack a1 a2 h = some q) : zCT l D cy S0 d yX5_takeBack cX5_takeBack 3 none [.ref 24, .int a1, .int a2] 117 zRF h none 117 zRF q := by
  unfold s_X5_takeBack at e
  refine zCT_of RX5 rfl zm_X5_takeBack (Nat.le_refl _) (Nat.le_of_ble_eq_true rfl) (fun J X => ?_)
  show J 0 [(0, .ref 24), (1, .int a1), (2, .int a2)] [] 117 zRF h
  refine zv_aload_n X dX5_takeBack_0 rfl rfl ?_
  refine zv_getR X zf_RX5_24 znt_a zk_24 zb_24 zr_24_5 dX5_takeBack_1 ?_
  refine zv_iload_n X dX5_takeBack_4 rfl rfl ?_
  refine zv_iload_n X dX5_takeBack_5 rfl rfl ?_
  refine zb e (fun h1 gh1 e => ?_)
  refine zv_iast X zk_29 zl_29 zb_29 dX5_takeBack_6 gh1 ?_
  refine zv_aload_n X dX5_takeBack_7 rfl rfl ?_
  refine zv_dup_r X dX5_takeBack_8 ?_
  refine zv_getI X zf_RX5_37 zk_24 zb_24 dX5_takeBack_9 ?_
  refine zv_iconst (v := (1 : Int32)) X dX5_takeBack_12 zic_1 ?_
  refine zv_iadd X dX5_takeBack_13 ?_
  refine zb e (fun v2 gv2 e => ?_)
  refine zv_nmI X gv2 ?_
  refine zb e (fun h3 gh3 e => ?_)
  refine zv_putI' X zf_RX5_37 zk_24 zb_24 dX5_takeBack_14 gh3 ?_
  exact zv_retV X e rfl dX5_takeBack_17
-- X9_back
def s_X9_back (a1 : Int32) (h : zHp) : Option (Int32 × zHp) :=
  (s_X5_has a1 h).bind fun q1 =>
  if q1.1 = 0 then
    (s_X9_refused (-1 : Int32) q1.2).bind fun q7 =>
    some (q7.1, q7.2)
  else
    (s_X5_isTakenBack a1 q1.2).bind fun q3 =>
    if q3.1 = 0 then
      (s_X5_takeBack a1 (q3.2.1 0 14) q3.2).bind fun q5 =>
      some ((1 : Int32), q5)
    else
      (s_X9_refused (-3 : Int32) q3.2).bind fun q6 =>
      some (q6.1, q6.2)
set_option maxRecDepth 100000 in
set_option maxHeartbeats 4000000 in
theorem k_X9_back {l : Launch} {D : va_G} {cy : Nat → ClassId} {S0 d : Nat} (hd : 1 ≤ d) {a1 : Int32} {h : zHp} {q : (Int32 × zHp)} (e : s_X9_back a1 h = some q) : zCT l D cy S0 d yX9_back cX9_back 2 (some .int) [.ref 0, .int a1] 117 zRF h (some (.int q.1)) 117 zRF q.2 := by
  unfold s_X9_back at e
  refine zCT_of RX9 rfl zm_X9_back (Nat.le_refl _) (Nat.le_of_ble_eq_true rfl) (fun J X => ?_)
  show J 0 [(0, .ref 0), (1, .int a1)] [] 117 zRF h
  refine zv_aload_n X dX9_back_0 rfl rfl ?_
  refine zv_getR X zf_RX9_45 znt_o zk_0 zb_0 zr_0_7 dX9_back_1 ?_
  refine zv_iload_n X dX9_back_4 rfl rfl ?_
  refine zb e (fun q1 gq1 e => ?_)
  refine zv_callV (stk := [.int a1, .ref 24]) (as := [.int a1]) (st := []) (k := 24) X zl_RX9_168 zm_X5_has (k_X5_has (d := d - 1) (by omega) gq1) (by omega) zb_24 (by rw [zk_24]; rfl) rfl rfl (Nat.le_of_ble_eq_true rfl) (Nat.le_refl _) rfl dX9_back_5 ?_
  show J 8 [(0, .ref 0), (1, .int a1)] [.int q1.1] 117 zRF q1.2
  refine zv_if_ne (tgt := 17) X dX9_back_8 (by decide) (fun c2 => ?_) (fun c2 => ?_)
  · replace e := zif e c2
    refine zv_aload_n X dX9_back_17 rfl rfl ?_
    refine zv_getR X zf_RX9_45 znt_o zk_0 zb_0 zr_0_7 dX9_back_18 ?_
    refine zv_iload_n X dX9_back_21 rfl rfl ?_
    refine zb e (fun q3 gq3 e => ?_)
    refine zv_callV (stk := [.int a1, .ref 24]) (as := [.int a1]) (st := []) (k := 24) X zl_RX9_169 zm_X5_isTakenBack (k_X5_isTakenBack (d := d - 1) (by omega) gq3) (by omega) zb_24 (by rw [zk_24]; rfl) rfl rfl (Nat.le_of_ble_eq_true rfl) (Nat.le_refl _) rfl dX9_back_22 ?_
    show J 25 [(0, .ref 0), (1, .int a1)] [.int q3.1] 117 zRF q3.2
    refine zv_if_eq (tgt := 35) X dX9_back_25 (by decide) (fun c4 => ?_) (fun c4 => ?_)
    · replace e := zit e c4
      refine zv_aload_n X dX9_back_35 rfl rfl ?_
      refine zv_getR X zf_RX9_45 znt_o zk_0 zb_0 zr_0_7 dX9_back_36 ?_
      refine zv_iload_n X dX9_back_39 rfl rfl ?_
      refine zv_aload_n X dX9_back_40 rfl rfl ?_
      refine zv_getI X zf_RX9_95 zk_0 zb_0 dX9_back_41 ?_
      refine zb e (fun q5 gq5 e => ?_)
      refine zv_callV (stk := [.int (q3.2.1 0 14), .int a1, .ref 24]) (as := [.int a1, .int (q3.2.1 0 14)]) (st := []) (k := 24) X zl_RX9_184 zm_X5_takeBack (k_X5_takeBack (d := d - 1) (by omega) gq5) (by omega) zb_24 (by rw [zk_24]; rfl) rfl rfl (Nat.le_of_ble_eq_true rfl) (Nat.le_refl _) rfl dX9_back_44 ?_
      show J 47 [(0, .ref 0), (1, .int a1)] [] 117 zRF q5
      refine zv_iconst (v := (1 : Int32)) X dX9_back_47 zic_1 ?_
      exact zv_retI X e rfl dX9_back_48
    · replace e := zif e c4
      refine zv_aload_n X dX9_back_28 rfl rfl ?_
      refine zv_bipush (v := (-3 : Int32)) X dX9_back_29 zbp_m3 ?_
      refine zb e (fun q6 gq6 e => ?_)
      refine zv_callV (stk := [.int (-3 : Int32), .ref 0]) (as := [.int (-3 : Int32)]) (st := []) (k := 0) X zl_RX9_108 zm_X9_refused (k_X9_refused (d := d - 1) (by omega) gq6) (by omega) zb_0 (by rw [zk_0]; rfl) rfl rfl (Nat.le_of_ble_eq_true rfl) (Nat.le_refl _) rfl dX9_back_31 ?_
      show J 34 [(0, .ref 0), (1, .int a1)] [.int q6.1] 117 zRF q6.2
      exact zv_retI X e rfl dX9_back_34
  · replace e := zit e c2
    refine zv_aload_n X dX9_back_11 rfl rfl ?_
    refine zv_iconst (v := (-1 : Int32)) X dX9_back_12 zic_m1 ?_
    refine zb e (fun q7 gq7 e => ?_)
    refine zv_callV (stk := [.int (-1 : Int32), .ref 0]) (as := [.int (-1 : Int32)]) (st := []) (k := 0) X zl_RX9_108 zm_X9_refused (k_X9_refused (d := d - 1) (by omega) gq7) (by omega) zb_0 (by rw [zk_0]; rfl) rfl rfl (Nat.le_of_ble_eq_true rfl) (Nat.le_refl _) rfl dX9_back_13 ?_
    show J 16 [(0, .ref 0), (1, .int a1)] [.int q7.1] 117 zRF q7.2
    exact zv_retI X e rfl dX9_back_16
-- X10_isLook
def s_X10_isLook (a1 : Int32) (h : zHp) : Option (Int32 × zHp) :=
  (s_X10_in a1 (0 : Int32) ((h.1 67 17) - (1 : Int32)) h).bind fun q1 =>
  (zbo q1.1).bind fun u2 =>
  some (q1.1, q1.2)
set_option maxRecDepth 100000 in
set_option maxHeartbeats 4000000 in
theorem k_X10_isLook {l : Launch} {D : va_G} {cy : Nat → ClassId} {S0 d : Nat} (hd : 1 ≤ d) {a1 : Int32} {h : zHp} {q : (Int32 × zHp)} (e : s_X10_isLook a1 h = some q) : zCT l D cy S0 d yX10_isLook cX10_isLook 2 (some .boolean) [.ref 67, .int a1] 117 zRF h (some (.int q.1)) 117 zRF q.2 := by
  unfold s_X10_isLook at e
  refine zCT_of RX10 rfl zm_X10_isLook (Nat.le_refl _) (Nat.le_of_ble_eq_true rfl) (fun J X => ?_)
  show J 0 [(0, .ref 67), (1, .int a1)] [] 117 zRF h
  refine zv_iload_n X dX10_isLook_0 rfl rfl ?_
  refine zv_iconst (v := (0 : Int32)) X dX10_isLook_1 zic_0 ?_
  refine zv_aload_n X dX10_isLook_2 rfl rfl ?_
  refine zv_getI X zf_RX10_172 zk_67 zb_67 dX10_isLook_3 ?_
  refine zv_iconst (v := (1 : Int32)) X dX10_isLook_6 zic_1 ?_
  refine zv_isub X dX10_isLook_7 ?_
  refine zb e (fun q1 gq1 e => ?_)
  refine zv_callS (stk := [.int ((h.1 67 17) - (1 : Int32)), .int (0 : Int32), .int a1]) (as := [.int a1, .int (0 : Int32), .int ((h.1 67 17) - (1 : Int32))]) (st := []) X zl_RX10_168 zm_X10_in (k_X10_in (d := d - 1) (by omega) gq1) (by omega) rfl (Nat.le_of_ble_eq_true rfl) (Nat.le_refl _) rfl dX10_isLook_8 ?_
  show J 11 [(0, .ref 67), (1, .int a1)] [.int q1.1] 117 zRF q1.2
  refine zb e (fun u gu e => ?_)
  exact zv_retZ X e rfl (zbo_ok gu) dX10_isLook_11
-- X10_back
def s_X10_back (a1 : Int32) (h : zHp) : Option (Int32 × zHp) :=
  (s_X10_isLook a1 h).bind fun q1 =>
  if q1.1 = 0 then
    (s_X10_refuse (-1 : Int32) q1.2).bind fun q7 =>
    some (q7.1, q7.2)
  else
    (zri q1.2 86 80 a1).bind fun v3 =>
    if v3 < 0 then
      (zui q1.2 86 80 a1 (q1.2.1 67 0)).bind fun h5 =>
      some ((1 : Int32), h5)
    else
      (s_X10_refuse (-3 : Int32) q1.2).bind fun q6 =>
      some (q6.1, q6.2)
set_option maxRecDepth 100000 in
set_option maxHeartbeats 4000000 in
theorem k_X10_back {l : Launch} {D : va_G} {cy : Nat → ClassId} {S0 d : Nat} (hd : 2 ≤ d) {a1 : Int32} {h : zHp} {q : (Int32 × zHp)} (e : s_X10_back a1 h = some q) : zCT l D cy S0 d yX10_back cX10_back 2 (some .int) [.ref 67, .int a1] 117 zRF h (some (.int q.1)) 117 zRF q.2 := by
  unfold s_X10_back at e
  refine zCT_of RX10 rfl zm_X10_back (Nat.le_refl _) (Nat.le_of_ble_eq_true rfl) (fun J X => ?_)
  show J 0 [(0, .ref 67), (1, .int a1)] [] 117 zRF h
  refine zv_aload_n X dX10_back_0 rfl rfl ?_
  refine zv_iload_n X dX10_back_1 rfl rfl ?_
  refine zb e (fun q1 gq1 e => ?_)
  refine zv_callV (stk := [.int a1, .ref 67]) (as := [.int a1]) (st := []) (k := 67) X zl_RX10_199 zm_X10_isLook (k_X10_isLook (d := d - 1) (by omega) gq1) (by omega) zb_67 (by rw [zk_67]; rfl) rfl rfl (Nat.le_of_ble_eq_true rfl) (Nat.le_refl _) rfl dX10_back_2 ?_
  show J 5 [(0, .ref 67), (1, .int a1)] [.int q1.1] 117 zRF q1.2
  refine zv_if_ne (tgt := 14) X dX10_back_5 (by decide) (fun c2 => ?_) (fun c2 => ?_)
  · replace e := zif e c2
    refine zv_aload_n X dX10_back_14 rfl rfl ?_
    refine zv_getR X zf_RX10_65 znt_a zk_67 zb_67 zr_67_22 dX10_back_15 ?_
    refine zv_iload_n X dX10_back_18 rfl rfl ?_
    refine zb e (fun v3 gv3 e => ?_)
    refine zv_iald X zk_86 zl_86 zb_86 dX10_back_19 gv3 ?_
    refine zv_if_lt (tgt := 30) X dX10_back_20 (by decide) (fun c4 => ?_) (fun c4 => ?_)
    · replace e := zit e c4
      refine zv_aload_n X dX10_back_30 rfl rfl ?_
      refine zv_getR X zf_RX10_65 znt_a zk_67 zb_67 zr_67_22 dX10_back_31 ?_
      refine zv_iload_n X dX10_back_34 rfl rfl ?_
      refine zv_aload_n X dX10_back_35 rfl rfl ?_
      refine zv_getI X zf_RX10_179 zk_67 zb_67 dX10_back_36 ?_
      refine zb e (fun h5 gh5 e => ?_)
      refine zv_iast X zk_86 zl_86 zb_86 dX10_back_39 gh5 ?_
      refine zv_iconst (v := (1 : Int32)) X dX10_back_40 zic_1 ?_
      exact zv_retI X e rfl dX10_back_41
    · replace e := zif e c4
      refine zv_aload_n X dX10_back_23 rfl rfl ?_
      refine zv_bipush (v := (-3 : Int32)) X dX10_back_24 zbp_m3 ?_
      refine zb e (fun q6 gq6 e => ?_)
      refine zv_callV (stk := [.int (-3 : Int32), .ref 67]) (as := [.int (-3 : Int32)]) (st := []) (k := 67) X zl_RX10_175 zm_X10_refuse (k_X10_refuse (d := d - 1) (by omega) gq6) (by omega) zb_67 (by rw [zk_67]; rfl) rfl rfl (Nat.le_of_ble_eq_true rfl) (Nat.le_refl _) rfl dX10_back_26 ?_
      show J 29 [(0, .ref 67), (1, .int a1)] [.int q6.1] 117 zRF q6.2
      exact zv_retI X e rfl dX10_back_29
  · replace e := zit e c2
    refine zv_aload_n X dX10_back_8 rfl rfl ?_
    refine zv_iconst (v := (-1 : Int32)) X dX10_back_9 zic_m1 ?_
    refine zb e (fun q7 gq7 e => ?_)
    refine zv_callV (stk := [.int (-1 : Int32), .ref 67]) (as := [.int (-1 : Int32)]) (st := []) (k := 67) X zl_RX10_175 zm_X10_refuse (k_X10_refuse (d := d - 1) (by omega) gq7) (by omega) zb_67 (by rw [zk_67]; rfl) rfl rfl (Nat.le_of_ble_eq_true rfl) (Nat.le_refl _) rfl dX10_back_10 ?_
    show J 13 [(0, .ref 67), (1, .int a1)] [.int q7.1] 117 zRF q7.2
    exact zv_retI X e rfl dX10_back_13
-- J7_fill_53178_31
def s_J7_fill_53178_31_L5 : Nat → Int32 → Int32 → Int32 → zHp → Option zHp
  | 0, _, _, _, _ => none
  | f + 1, a1, a2, a3, h =>
  if a3 ≤ a2 then
    some h
  else
    (zui h 31 5 a2 a1).bind fun h2 =>
    s_J7_fill_53178_31_L5 f a1 (a2 + (1 : Int32)) a3 h2
def s_J7_fill_53178_31 (a1 : Int32) (h : zHp) : Option zHp :=
  s_J7_fill_53178_31_L5 zFU a1 (0 : Int32) (5 : Int32) h
set_option maxRecDepth 100000 in
set_option maxHeartbeats 4000000 in
theorem k_J7_fill_53178_31_L5 {l : Launch} {D : va_G} {cy : Nat → ClassId} {S0 d : Nat} {N : Nat} {rf : zRf} (hkN : 31 < N) {J : zJ} (q : zHp) (hd : 0 ≤ d) (X : zOK l D cy S0 d RJ7 cJ7_fill_53178 4 (yJ7_fill_53178.name == "<init>") N N none (zRT N rf none q) J) : ∀ (f : Nat) (a1 : Int32) (a2 : Int32) (a3 : Int32) (h : zHp), s_J7_fill_53178_31_L5 f a1 a2 a3 h = some q → J 5 [(0, .ref 31), (1, .int a1), (2, .int a2), (3, .int a3)] [] N rf h := by
  intro f
  induction f with
  | zero => intro _ _ _ h e; exact absurd e (fun z => by cases z)
  | succ f ih =>
    intro a1 a2 a3 h e
    rw [s_J7_fill_53178_31_L5] at e
    refine zv_iload_n X dJ7_fill_53178_5 rfl rfl ?_
    refine zv_iload_n X dJ7_fill_53178_6 rfl rfl ?_
    refine zv_icmp_ge (tgt := 20) X dJ7_fill_53178_7 (by decide) (fun c1 => ?_) (fun c1 => ?_)
    · replace e := zit e c1
      exact zv_retV X e rfl dJ7_fill_53178_20
    · replace e := zif e c1
      refine zv_aload_n X dJ7_fill_53178_10 rfl rfl ?_
      refine zv_iload_n X dJ7_fill_53178_11 rfl rfl ?_
      refine zv_iload_n X dJ7_fill_53178_12 rfl rfl ?_
      refine zb e (fun h2 gh2 e => ?_)
      refine zv_iast X zk_31 zl_31 hkN dJ7_fill_53178_13 gh2 ?_
      refine zv_iinc (k := 2) (v := a2 + (1 : Int32)) (lv' := [(2, .int (a2 + (1 : Int32))), (0, .ref 31), (1, .int a1), (3, .int a3)]) X dJ7_fill_53178_14 rfl rfl (Nat.le_of_ble_eq_true rfl) rfl ?_
      refine zv_goto (tgt := 5) X dJ7_fill_53178_17 (by decide) ?_
      exact zv_pick X [1, 2, 0, 3] rfl (ih _ _ _ _ e)
set_option maxRecDepth 100000 in
set_option maxHeartbeats 4000000 in
theorem k_J7_fill_53178_31 {l : Launch} {D : va_G} {cy : Nat → ClassId} {S0 d : Nat} {N : Nat} {rf : zRf} (hkN : 31 < N) (hd : 0 ≤ d) {a1 : Int32} {h : zHp} {q : zHp} (e : s_J7_fill_53178_31 a1 h = some q) : zCT l D cy S0 d yJ7_fill_53178 cJ7_fill_53178 4 none [.ref 31, .int a1] N rf h none N rf q := by
  unfold s_J7_fill_53178_31 at e
  refine zCT_of RJ7 rfl zm_J7_fill_53178 (Nat.le_refl _) (Nat.le_of_ble_eq_true rfl) (fun J X => ?_)
  show J 0 [(0, .ref 31), (1, .int a1)] [] N rf h
  refine zv_iconst (v := (0 : Int32)) X dJ7_fill_53178_0 zic_0 ?_
  refine zv_istore_n (i := 2) (lv' := [(2, .int (0 : Int32)), (0, .ref 31), (1, .int a1)]) X dJ7_fill_53178_1 rfl (Nat.le_of_ble_eq_true rfl) rfl ?_
  refine zv_aload_n X dJ7_fill_53178_2 rfl rfl ?_
  refine zv_alenI (v := (5 : Int32)) X zk_31 zl_31 (by decide) hkN dJ7_fill_53178_3 ?_
  refine zv_istore_n (i := 3) (lv' := [(3, .int (5 : Int32)), (2, .int (0 : Int32)), (0, .ref 31), (1, .int a1)]) X dJ7_fill_53178_4 rfl (Nat.le_of_ble_eq_true rfl) rfl ?_
  exact zv_pick X [2, 3, 1, 0] rfl (k_J7_fill_53178_31_L5 hkN q hd X _ _ _ _ _ e)
-- X0_size
def s_X0_size  (h : zHp) : Option (Int32 × zHp) :=
  some (h.1 6 6, h)
set_option maxRecDepth 100000 in
set_option maxHeartbeats 4000000 in
theorem k_X0_size {l : Launch} {D : va_G} {cy : Nat → ClassId} {S0 d : Nat} (hd : 0 ≤ d) {h : zHp} {q : (Int32 × zHp)} (e : s_X0_size  h = some q) : zCT l D cy S0 d yX0_size cX0_size 1 (some .int) [.ref 6] 117 zRF h (some (.int q.1)) 117 zRF q.2 := by
  unfold s_X0_size at e
  refine zCT_of RX0 rfl zm_X0_size (Nat.le_refl _) (Nat.le_of_ble_eq_true rfl) (fun J X => ?_)
  show J 0 [(0, .ref 6)] [] 117 zRF h
  refine zv_aload_n X dX0_size_0 rfl rfl ?_
  refine zv_getI X zf_RX0_30 zk_6 zb_6 dX0_size_1 ?_
  exact zv_retI X e rfl dX0_size_4
-- X0_groupOf
def s_X0_groupOf (a1 : Int32) (h : zHp) : Option (Int32 × zHp) :=
  (zri h 7 40 a1).bind fun v1 =>
  some (v1, h)
set_option maxRecDepth 100000 in
set_option maxHeartbeats 4000000 in
theorem k_X0_groupOf {l : Launch} {D : va_G} {cy : Nat → ClassId} {S0 d : Nat} (hd : 0 ≤ d) {a1 : Int32} {h : zHp} {q : (Int32 × zHp)} (e : s_X0_groupOf a1 h = some q) : zCT l D cy S0 d yX0_groupOf cX0_groupOf 2 (some .int) [.ref 6, .int a1] 117 zRF h (some (.int q.1)) 117 zRF q.2 := by
  unfold s_X0_groupOf at e
  refine zCT_of RX0 rfl zm_X0_groupOf (Nat.le_refl _) (Nat.le_of_ble_eq_true rfl) (fun J X => ?_)
  show J 0 [(0, .ref 6), (1, .int a1)] [] 117 zRF h
  refine zv_aload_n X dX0_groupOf_0 rfl rfl ?_
  refine zv_getR X zf_RX0_9 znt_a zk_6 zb_6 zr_6_0 dX0_groupOf_1 ?_
  refine zv_iload_n X dX0_groupOf_4 rfl rfl ?_
  refine zb e (fun v1 gv1 e => ?_)
  refine zv_iald X zk_7 zl_7 zb_7 dX0_groupOf_5 gv1 ?_
  exact zv_retI X e rfl dX0_groupOf_6
-- X0_pointsOf
def s_X0_pointsOf (a1 : Int32) (h : zHp) : Option (Int32 × zHp) :=
  (zri h 8 40 a1).bind fun v1 =>
  some (v1, h)
set_option maxRecDepth 100000 in
set_option maxHeartbeats 4000000 in
theorem k_X0_pointsOf {l : Launch} {D : va_G} {cy : Nat → ClassId} {S0 d : Nat} (hd : 0 ≤ d) {a1 : Int32} {h : zHp} {q : (Int32 × zHp)} (e : s_X0_pointsOf a1 h = some q) : zCT l D cy S0 d yX0_pointsOf cX0_pointsOf 2 (some .int) [.ref 6, .int a1] 117 zRF h (some (.int q.1)) 117 zRF q.2 := by
  unfold s_X0_pointsOf at e
  refine zCT_of RX0 rfl zm_X0_pointsOf (Nat.le_refl _) (Nat.le_of_ble_eq_true rfl) (fun J X => ?_)
  show J 0 [(0, .ref 6), (1, .int a1)] [] 117 zRF h
  refine zv_aload_n X dX0_pointsOf_0 rfl rfl ?_
  refine zv_getR X zf_RX0_15 znt_a zk_6 zb_6 zr_6_1 dX0_pointsOf_1 ?_
  refine zv_iload_n X dX0_pointsOf_4 rfl rfl ?_
  refine zb e (fun v1 gv1 e => ?_)
  refine zv_iald X zk_8 zl_8 zb_8 dX0_pointsOf_5 gv1 ?_
  exact zv_retI X e rfl dX0_pointsOf_6
-- X0_mostOf
def s_X0_mostOf (a1 : Int32) (h : zHp) : Option (Int32 × zHp) :=
  (zri h 12 5 a1).bind fun v1 =>
  some (v1, h)
set_option maxRecDepth 100000 in
set_option maxHeartbeats 4000000 in
theorem k_X0_mostOf {l : Launch} {D : va_G} {cy : Nat → ClassId} {S0 d : Nat} (hd : 0 ≤ d) {a1 : Int32} {h : zHp} {q : (Int32 × zHp)} (e : s_X0_mostOf a1 h = some q) : zCT l D cy S0 d yX0_mostOf cX0_mostOf 2 (some .int) [.ref 6, .int a1] 117 zRF h (some (.int q.1)) 117 zRF q.2 := by
  unfold s_X0_mostOf at e
  refine zCT_of RX0 rfl zm_X0_mostOf (Nat.le_refl _) (Nat.le_of_ble_eq_true rfl) (fun J X => ?_)
  show J 0 [(0, .ref 6), (1, .int a1)] [] 117 zRF h
  refine zv_aload_n X dX0_mostOf_0 rfl rfl ?_
  refine zv_getR X zf_RX0_27 znt_a zk_6 zb_6 zr_6_5 dX0_mostOf_1 ?_
  refine zv_iload_n X dX0_mostOf_4 rfl rfl ?_
  refine zb e (fun v1 gv1 e => ?_)
  refine zv_iald X zk_12 zl_12 zb_12 dX0_mostOf_5 gv1 ?_
  exact zv_retI X e rfl dX0_mostOf_6
-- J9_min_7cf53
def s_J9_min_7cf53_L10 (b0 : Int32) (h : zHp) : Option (Int32 × zHp) :=
  some (b0, h)
def s_J9_min_7cf53 (a0 : Int32) (a1 : Int32) (h : zHp) : Option (Int32 × zHp) :=
  if a1 < a0 then
    s_J9_min_7cf53_L10 a1 h
  else
    s_J9_min_7cf53_L10 a0 h
set_option maxRecDepth 100000 in
set_option maxHeartbeats 4000000 in
theorem k_J9_min_7cf53_L10 {l : Launch} {D : va_G} {cy : Nat → ClassId} {S0 d : Nat} {J : zJ} (q : (Int32 × zHp)) (hd : 0 ≤ d) (X : zOK l D cy S0 d RJ9 cJ9_min_7cf53 2 (yJ9_min_7cf53.name == "<init>") 117 117 (some .int) (zRT 117 zRF (some (.int q.1)) q.2) J) : ∀ (b0 : Int32) (h : zHp), s_J9_min_7cf53_L10 b0 h = some q → J 10 [] [.int b0] 117 zRF h := by
  intro b0 h e
  unfold s_J9_min_7cf53_L10 at e
  exact zv_retI X e rfl dJ9_min_7cf53_10
set_option maxRecDepth 100000 in
set_option maxHeartbeats 4000000 in
theorem k_J9_min_7cf53 {l : Launch} {D : va_G} {cy : Nat → ClassId} {S0 d : Nat} (hd : 0 ≤ d) {a0 : Int32} {a1 : Int32} {h : zHp} {q : (Int32 × zHp)} (e : s_J9_min_7cf53 a0 a1 h = some q) : zCT l D cy S0 d yJ9_min_7cf53 cJ9_min_7cf53 2 (some .int) [.int a0, .int a1] 117 zRF h (some (.int q.1)) 117 zRF q.2 := by
  unfold s_J9_min_7cf53 at e
  refine zCT_of RJ9 rfl zm_J9_min_7cf53 (Nat.le_refl _) (Nat.le_of_ble_eq_true rfl) (fun J X => ?_)
  show J 0 [(0, .int a0), (1, .int a1)] [] 117 zRF h
  refine zv_iload_n X dJ9_min_7cf53_0 rfl rfl ?_
  refine zv_iload_n X dJ9_min_7cf53_1 rfl rfl ?_
  refine zv_icmp_gt (tgt := 9) X dJ9_min_7cf53_2 (by decide) (fun c1 => ?_) (fun c1 => ?_)
  · replace e := zit e c1
    refine zv_iload_n X dJ9_min_7cf53_9 rfl rfl ?_
    exact zv_pick X [] rfl (k_J9_min_7cf53_L10 q hd X _ _ e)
  · replace e := zif e c1
    refine zv_iload_n X dJ9_min_7cf53_5 rfl rfl ?_
    refine zv_goto (tgt := 10) X dJ9_min_7cf53_6 (by decide) ?_
    exact zv_pick X [] rfl (k_J9_min_7cf53_L10 q hd X _ _ e)

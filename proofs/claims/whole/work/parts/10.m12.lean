-- X10_habit
def s_X10_habit_L66 (b0 : Int64) (h : zHp) : Option (Int64 × zHp) :=
  some (b0, h)
def s_X10_habit (a1 : Int32) (a2 : Int32) (h : zHp) : Option (Int64 × zHp) :=
  (s_X10_in a1 (0 : Int32) (4 : Int32) h).bind fun q1 =>
  if q1.1 = 0 then
    (s_X10_refuseFar (-1 : Int32) q1.2).bind fun q11 =>
    some (q11.1, q11.2)
  else
    (s_X10_in a2 (0 : Int32) (1 : Int32) q1.2).bind fun q3 =>
    if q3.1 = 0 then
      (s_X10_refuseFar (-2 : Int32) q3.2).bind fun q10 =>
      some (q10.1, q10.2)
    else
      (s_X10_findHabit a1 q3.2).bind fun q5 =>
      (s_X10_isJoined a1 q5).bind fun q6 =>
      if q6.1 = 0 then
        (s_X10_refuseFar (-3 : Int32) q6.2).bind fun q9 =>
        some (q9.1, q9.2)
      else
        if a2 = 0 then
          s_X10_habit_L66 (q6.2.2 67 45) q6.2
        else
          s_X10_habit_L66 (q6.2.2 67 46) q6.2
set_option maxRecDepth 100000 in
set_option maxHeartbeats 4000000 in
theorem k_X10_habit_L66 {l : Launch} {D : va_G} {cy : Nat → ClassId} {S0 d : Nat} {J : zJ} (q : (Int64 × zHp)) (hd : 4 ≤ d) (X : zOK l D cy S0 d RX10 cX10_habit 3 (yX10_habit.name == "<init>") 117 117 (some .long) (zRT 117 zRF (some (.long q.1)) q.2) J) : ∀ (b0 : Int64) (h : zHp), s_X10_habit_L66 b0 h = some q → J 66 [] [.long b0] 117 zRF h := by
  intro b0 h e
  unfold s_X10_habit_L66 at e
  exact zv_retL X e rfl dX10_habit_66
set_option maxRecDepth 100000 in
set_option maxHeartbeats 4000000 in
theorem k_X10_habit {l : Launch} {D : va_G} {cy : Nat → ClassId} {S0 d : Nat} (hd : 4 ≤ d) {a1 : Int32} {a2 : Int32} {h : zHp} {q : (Int64 × zHp)} (e : s_X10_habit a1 a2 h = some q) : zCT l D cy S0 d yX10_habit cX10_habit 3 (some .long) [.ref 67, .int a1, .int a2] 117 zRF h (some (.long q.1)) 117 zRF q.2 := by
  unfold s_X10_habit at e
  refine zCT_of RX10 rfl zm_X10_habit (Nat.le_refl _) (Nat.le_of_ble_eq_true rfl) (fun J X => ?_)
  show J 0 [(0, .ref 67), (1, .int a1), (2, .int a2)] [] 117 zRF h
  refine zv_iload_n X dX10_habit_0 rfl rfl ?_
  refine zv_iconst (v := (0 : Int32)) X dX10_habit_1 zic_0 ?_
  refine zv_iconst (v := (4 : Int32)) X dX10_habit_2 zic_4 ?_
  refine zb e (fun q1 gq1 e => ?_)
  refine zv_callS (stk := [.int (4 : Int32), .int (0 : Int32), .int a1]) (as := [.int a1, .int (0 : Int32), .int (4 : Int32)]) (st := []) X zl_RX10_168 zm_X10_in (k_X10_in (d := d - 1) (by omega) gq1) (by omega) rfl (Nat.le_of_ble_eq_true rfl) (Nat.le_refl _) rfl dX10_habit_3 ?_
  show J 6 [(0, .ref 67), (1, .int a1), (2, .int a2)] [.int q1.1] 117 zRF q1.2
  refine zv_if_ne (tgt := 15) X dX10_habit_6 (by decide) (fun c2 => ?_) (fun c2 => ?_)
  · replace e := zif e c2
    refine zv_iload_n X dX10_habit_15 rfl rfl ?_
    refine zv_iconst (v := (0 : Int32)) X dX10_habit_16 zic_0 ?_
    refine zv_iconst (v := (1 : Int32)) X dX10_habit_17 zic_1 ?_
    refine zb e (fun q3 gq3 e => ?_)
    refine zv_callS (stk := [.int (1 : Int32), .int (0 : Int32), .int a2]) (as := [.int a2, .int (0 : Int32), .int (1 : Int32)]) (st := []) X zl_RX10_168 zm_X10_in (k_X10_in (d := d - 1) (by omega) gq3) (by omega) rfl (Nat.le_of_ble_eq_true rfl) (Nat.le_refl _) rfl dX10_habit_18 ?_
    show J 21 [(0, .ref 67), (1, .int a1), (2, .int a2)] [.int q3.1] 117 zRF q3.2
    refine zv_if_ne (tgt := 31) X dX10_habit_21 (by decide) (fun c4 => ?_) (fun c4 => ?_)
    · replace e := zif e c4
      refine zv_aload_n X dX10_habit_31 rfl rfl ?_
      refine zv_iload_n X dX10_habit_32 rfl rfl ?_
      refine zb e (fun q5 gq5 e => ?_)
      refine zv_callV (stk := [.int a1, .ref 67]) (as := [.int a1]) (st := []) (k := 67) X zl_RX10_288 zm_X10_findHabit (k_X10_findHabit (d := d - 1) (by omega) gq5) (by omega) zb_67 (by rw [zk_67]; rfl) rfl rfl (Nat.le_of_ble_eq_true rfl) (Nat.le_refl _) rfl dX10_habit_33 ?_
      show J 36 [(0, .ref 67), (1, .int a1), (2, .int a2)] [] 117 zRF q5
      refine zv_aload_n X dX10_habit_36 rfl rfl ?_
      refine zv_iload_n X dX10_habit_37 rfl rfl ?_
      refine zb e (fun q6 gq6 e => ?_)
      refine zv_callV (stk := [.int a1, .ref 67]) (as := [.int a1]) (st := []) (k := 67) X zl_RX10_274 zm_X10_isJoined (k_X10_isJoined (d := d - 1) (by omega) gq6) (by omega) zb_67 (by rw [zk_67]; rfl) rfl rfl (Nat.le_of_ble_eq_true rfl) (Nat.le_refl _) rfl dX10_habit_38 ?_
      show J 41 [(0, .ref 67), (1, .int a1), (2, .int a2)] [.int q6.1] 117 zRF q6.2
      refine zv_if_ne (tgt := 51) X dX10_habit_41 (by decide) (fun c7 => ?_) (fun c7 => ?_)
      · replace e := zif e c7
        refine zv_iload_n X dX10_habit_51 rfl rfl ?_
        refine zv_if_ne (tgt := 62) X dX10_habit_52 (by decide) (fun c8 => ?_) (fun c8 => ?_)
        · replace e := zif e c8
          refine zv_aload_n X dX10_habit_62 rfl rfl ?_
          refine zv_getL X zf_RX10_271 zk_67 zb_67 dX10_habit_63 ?_
          exact zv_pick X [] rfl (k_X10_habit_L66 q hd X _ _ e)
        · replace e := zit e c8
          refine zv_aload_n X dX10_habit_55 rfl rfl ?_
          refine zv_getL X zf_RX10_267 zk_67 zb_67 dX10_habit_56 ?_
          refine zv_goto (tgt := 66) X dX10_habit_59 (by decide) ?_
          exact zv_pick X [] rfl (k_X10_habit_L66 q hd X _ _ e)
      · replace e := zit e c7
        refine zv_aload_n X dX10_habit_44 rfl rfl ?_
        refine zv_bipush (v := (-3 : Int32)) X dX10_habit_45 zbp_m3 ?_
        refine zb e (fun q9 gq9 e => ?_)
        refine zv_callV (stk := [.int (-3 : Int32), .ref 67]) (as := [.int (-3 : Int32)]) (st := []) (k := 67) X zl_RX10_285 zm_X10_refuseFar (k_X10_refuseFar (d := d - 1) (by omega) gq9) (by omega) zb_67 (by rw [zk_67]; rfl) rfl rfl (Nat.le_of_ble_eq_true rfl) (Nat.le_refl _) rfl dX10_habit_47 ?_
        show J 50 [(0, .ref 67), (1, .int a1), (2, .int a2)] [.long q9.1] 117 zRF q9.2
        exact zv_retL X e rfl dX10_habit_50
    · replace e := zit e c4
      refine zv_aload_n X dX10_habit_24 rfl rfl ?_
      refine zv_bipush (v := (-2 : Int32)) X dX10_habit_25 zbp_m2 ?_
      refine zb e (fun q10 gq10 e => ?_)
      refine zv_callV (stk := [.int (-2 : Int32), .ref 67]) (as := [.int (-2 : Int32)]) (st := []) (k := 67) X zl_RX10_285 zm_X10_refuseFar (k_X10_refuseFar (d := d - 1) (by omega) gq10) (by omega) zb_67 (by rw [zk_67]; rfl) rfl rfl (Nat.le_of_ble_eq_true rfl) (Nat.le_refl _) rfl dX10_habit_27 ?_
      show J 30 [(0, .ref 67), (1, .int a1), (2, .int a2)] [.long q10.1] 117 zRF q10.2
      exact zv_retL X e rfl dX10_habit_30
  · replace e := zit e c2
    refine zv_aload_n X dX10_habit_9 rfl rfl ?_
    refine zv_iconst (v := (-1 : Int32)) X dX10_habit_10 zic_m1 ?_
    refine zb e (fun q11 gq11 e => ?_)
    refine zv_callV (stk := [.int (-1 : Int32), .ref 67]) (as := [.int (-1 : Int32)]) (st := []) (k := 67) X zl_RX10_285 zm_X10_refuseFar (k_X10_refuseFar (d := d - 1) (by omega) gq11) (by omega) zb_67 (by rw [zk_67]; rfl) rfl rfl (Nat.le_of_ble_eq_true rfl) (Nat.le_refl _) rfl dX10_habit_11 ?_
    show J 14 [(0, .ref 67), (1, .int a1), (2, .int a2)] [.long q11.1] 117 zRF q11.2
    exact zv_retL X e rfl dX10_habit_14
-- X2_put_66
def s_X2_put_66_L49  (h : zHp) : Option zHp :=
  some h
def s_X2_put_66 (a1 : Int64) (a3 : Int64) (h : zHp) : Option zHp :=
  (zpl h 66 0 (0 : Int64)).bind fun h1 =>
  (zpl h1 66 1 (1 : Int64)).bind fun h2 =>
  (s_J9_abs_067f4 a1 h2).bind fun q3 =>
  (s_X2_commonDivisor q3.1 a3 q3.2).bind fun q4 =>
  if a3 ≤ (0 : Int64) then
    s_X2_put_66_L49 q4.2
  else
    if q4.1 ≤ (0 : Int64) then
      s_X2_put_66_L49 q4.2
    else
      (zldiv a1 q4.1).bind fun v7 =>
      (zpl q4.2 66 0 v7).bind fun h8 =>
      (zldiv a3 q4.1).bind fun v9 =>
      (zpl h8 66 1 v9).bind fun h10 =>
      s_X2_put_66_L49 h10
set_option maxRecDepth 100000 in
set_option maxHeartbeats 4000000 in
theorem k_X2_put_66_L49 {l : Launch} {D : va_G} {cy : Nat → ClassId} {S0 d : Nat} {J : zJ} (q : zHp) (hd : 1 ≤ d) (X : zOK l D cy S0 d RX2 cX2_put 7 (yX2_put.name == "<init>") 117 117 none (zRT 117 zRF none q) J) : ∀  (h : zHp), s_X2_put_66_L49  h = some q → J 49 [] [] 117 zRF h := by
  intro  h e
  unfold s_X2_put_66_L49 at e
  exact zv_retV X e rfl dX2_put_49
set_option maxRecDepth 100000 in
set_option maxHeartbeats 4000000 in
theorem k_X2_put_66 {l : Launch} {D : va_G} {cy : Nat → ClassId} {S0 d : Nat} (hd : 1 ≤ d) {a1 : Int64} {a3 : Int64} {h : zHp} {q : zHp} (e : s_X2_put_66 a1 a3 h = some q) : zCT l D cy S0 d yX2_put cX2_put 7 none [.ref 66, .long a1, .long a3] 117 zRF h none 117 zRF q := by
  unfold s_X2_put_66 at e
  refine zCT_of RX2 rfl zm_X2_put (Nat.le_refl _) (Nat.le_of_ble_eq_true rfl) (fun J X => ?_)
  show J 0 [(0, .ref 66), (1, .long a1), (3, .long a3)] [] 117 zRF h
  refine zv_aload_n X dX2_put_0 rfl rfl ?_
  refine zv_lconst (v := (0 : Int64)) X dX2_put_1 rfl ?_
  refine zb e (fun h1 gh1 e => ?_)
  refine zv_putL' X zf_RX2_7 zk_66 zb_66 dX2_put_2 gh1 ?_
  refine zv_aload_n X dX2_put_5 rfl rfl ?_
  refine zv_lconst (v := (1 : Int64)) X dX2_put_6 rfl ?_
  refine zb e (fun h2 gh2 e => ?_)
  refine zv_putL' X zf_RX2_13 zk_66 zb_66 dX2_put_7 gh2 ?_
  refine zv_lload_n X dX2_put_10 rfl rfl ?_
  refine zb e (fun q3 gq3 e => ?_)
  refine zv_callS (stk := [.long a1]) (as := [.long a1]) (st := []) X zl_RX2_16 zm_J9_abs_067f4 (k_J9_abs_067f4 (d := d - 1) (by omega) gq3) (by omega) rfl (Nat.le_of_ble_eq_true rfl) (Nat.le_refl _) rfl dX2_put_11 ?_
  show J 14 [(0, .ref 66), (1, .long a1), (3, .long a3)] [.long q3.1] 117 zRF q3.2
  refine zv_lload_n X dX2_put_14 rfl rfl ?_
  refine zb e (fun q4 gq4 e => ?_)
  refine zv_callS (stk := [.long a3, .long q3.1]) (as := [.long q3.1, .long a3]) (st := []) X zl_RX2_22 zm_X2_commonDivisor (k_X2_commonDivisor (d := d - 1) (by omega) gq4) (by omega) rfl (Nat.le_of_ble_eq_true rfl) (Nat.le_refl _) rfl dX2_put_15 ?_
  show J 18 [(0, .ref 66), (1, .long a1), (3, .long a3)] [.long q4.1] 117 zRF q4.2
  refine zv_lstore (i := 5) (lv' := [(5, .long q4.1), (0, .ref 66), (1, .long a1), (3, .long a3)]) X dX2_put_18 (Nat.le_of_ble_eq_true rfl) rfl ?_
  refine zv_lload_n X dX2_put_20 rfl rfl ?_
  refine zv_lconst (v := (0 : Int64)) X dX2_put_21 rfl ?_
  refine zv_lcmp_le (tgt := 49) (pc2 := 26) X dX2_put_22 rfl dX2_put_23 (by decide) rfl (fun c5 => ?_) (fun c5 => ?_)
  · replace e := zit e c5
    exact zv_pick X [] rfl (k_X2_put_66_L49 q hd X  _ e)
  · replace e := zif e c5
    refine zv_lload X dX2_put_26 rfl ?_
    refine zv_lconst (v := (0 : Int64)) X dX2_put_28 rfl ?_
    refine zv_lcmp_le (tgt := 49) (pc2 := 33) X dX2_put_29 rfl dX2_put_30 (by decide) rfl (fun c6 => ?_) (fun c6 => ?_)
    · replace e := zit e c6
      exact zv_pick X [] rfl (k_X2_put_66_L49 q hd X  _ e)
    · replace e := zif e c6
      refine zv_aload_n X dX2_put_33 rfl rfl ?_
      refine zv_lload_n X dX2_put_34 rfl rfl ?_
      refine zv_lload X dX2_put_35 rfl ?_
      refine zb e (fun v7 gv7 e => ?_)
      refine zv_ldiv X dX2_put_37 gv7 ?_
      refine zb e (fun h8 gh8 e => ?_)
      refine zv_putL' X zf_RX2_7 zk_66 zb_66 dX2_put_38 gh8 ?_
      refine zv_aload_n X dX2_put_41 rfl rfl ?_
      refine zv_lload_n X dX2_put_42 rfl rfl ?_
      refine zv_lload X dX2_put_43 rfl ?_
      refine zb e (fun v9 gv9 e => ?_)
      refine zv_ldiv X dX2_put_45 gv9 ?_
      refine zb e (fun h10 gh10 e => ?_)
      refine zv_putL' X zf_RX2_13 zk_66 zb_66 dX2_put_46 gh10 ?_
      exact zv_pick X [] rfl (k_X2_put_66_L49 q hd X  _ e)
-- X9_evenScore
def s_X9_evenScore (a1 : Int32) (h : zHp) : Option zHp :=
  (s_X5_inspectorOf a1 h).bind fun q1 =>
  (s_X3_habitOf q1.1 q1.2).bind fun q2 =>
  (s_X2_piece_51 (1 : Int32) q2).bind fun q3 =>
  (s_X5_ownScore a1 q3.2).bind fun q4 =>
  (s_X2_piece_51 (0 : Int32) q4.2).bind fun q5 =>
  (s_X2_put_66 ((q4.1.toInt64 * q3.1) - q5.1) q3.1 q5.2).bind fun q6 =>
  some q6
set_option maxRecDepth 100000 in
set_option maxHeartbeats 4000000 in
theorem k_X9_evenScore {l : Launch} {D : va_G} {cy : Nat → ClassId} {S0 d : Nat} (hd : 8 ≤ d) {a1 : Int32} {h : zHp} {q : zHp} (e : s_X9_evenScore a1 h = some q) : zCT l D cy S0 d yX9_evenScore cX9_evenScore 5 none [.ref 0, .int a1] 117 zRF h none 117 zRF q := by
  unfold s_X9_evenScore at e
  refine zCT_of RX9 rfl zm_X9_evenScore (Nat.le_refl _) (Nat.le_of_ble_eq_true rfl) (fun J X => ?_)
  show J 0 [(0, .ref 0), (1, .int a1)] [] 117 zRF h
  refine zv_aload_n X dX9_evenScore_0 rfl rfl ?_
  refine zv_getR X zf_RX9_68 znt_o zk_0 zb_0 zr_0_10 dX9_evenScore_1 ?_
  refine zv_aload_n X dX9_evenScore_4 rfl rfl ?_
  refine zv_getR X zf_RX9_45 znt_o zk_0 zb_0 zr_0_7 dX9_evenScore_5 ?_
  refine zv_iload_n X dX9_evenScore_8 rfl rfl ?_
  refine zb e (fun q1 gq1 e => ?_)
  refine zv_callV (stk := [.int a1, .ref 24, .ref 46]) (as := [.int a1]) (st := [.ref 46]) (k := 24) X zl_RX9_337 zm_X5_inspectorOf (k_X5_inspectorOf (d := d - 1) (by omega) gq1) (by omega) zb_24 (by rw [zk_24]; rfl) rfl rfl (Nat.le_of_ble_eq_true rfl) (Nat.le_refl _) rfl dX9_evenScore_9 ?_
  show J 12 [(0, .ref 0), (1, .int a1)] [.int q1.1, .ref 46] 117 zRF q1.2
  refine zb e (fun q2 gq2 e => ?_)
  refine zv_callV (stk := [.int q1.1, .ref 46]) (as := [.int q1.1]) (st := []) (k := 46) X zl_RX9_234 zm_X3_habitOf (k_X3_habitOf (d := d - 1) (by omega) gq2) (by omega) zb_46 (by rw [zk_46]; rfl) rfl rfl (Nat.le_of_ble_eq_true rfl) (Nat.le_refl _) rfl dX9_evenScore_12 ?_
  show J 15 [(0, .ref 0), (1, .int a1)] [.ref 51] 117 zRF q2
  refine zv_astore_n (i := 2) (lv' := [(2, .ref 51), (0, .ref 0), (1, .int a1)]) X dX9_evenScore_15 rfl (Nat.le_of_ble_eq_true rfl) rfl ?_
  refine zv_aload_n X dX9_evenScore_16 rfl rfl ?_
  refine zv_iconst (v := (1 : Int32)) X dX9_evenScore_17 zic_1 ?_
  refine zb e (fun q3 gq3 e => ?_)
  refine zv_callV (stk := [.int (1 : Int32), .ref 51]) (as := [.int (1 : Int32)]) (st := []) (k := 51) X zl_RX9_238 zm_X2_piece (k_X2_piece_51 (d := d - 1) (by omega) gq3) (by omega) zb_51 (by rw [zk_51]; rfl) rfl rfl (Nat.le_of_ble_eq_true rfl) (Nat.le_refl _) rfl dX9_evenScore_18 ?_
  show J 21 [(2, .ref 51), (0, .ref 0), (1, .int a1)] [.long q3.1] 117 zRF q3.2
  refine zv_lstore_n (i := 3) (lv' := [(3, .long q3.1), (2, .ref 51), (0, .ref 0), (1, .int a1)]) X dX9_evenScore_21 rfl (Nat.le_of_ble_eq_true rfl) rfl ?_
  refine zv_aload_n X dX9_evenScore_22 rfl rfl ?_
  refine zv_getR X zf_RX9_91 znt_o zk_0 zb_0 zr_0_13 dX9_evenScore_23 ?_
  refine zv_aload_n X dX9_evenScore_26 rfl rfl ?_
  refine zv_getR X zf_RX9_45 znt_o zk_0 zb_0 zr_0_7 dX9_evenScore_27 ?_
  refine zv_iload_n X dX9_evenScore_30 rfl rfl ?_
  refine zb e (fun q4 gq4 e => ?_)
  refine zv_callV (stk := [.int a1, .ref 24, .ref 66]) (as := [.int a1]) (st := [.ref 66]) (k := 24) X zl_RX9_340 zm_X5_ownScore (k_X5_ownScore (d := d - 1) (by omega) gq4) (by omega) zb_24 (by rw [zk_24]; rfl) rfl rfl (Nat.le_of_ble_eq_true rfl) (Nat.le_refl _) rfl dX9_evenScore_31 ?_
  show J 34 [(3, .long q3.1), (2, .ref 51), (0, .ref 0), (1, .int a1)] [.int q4.1, .ref 66] 117 zRF q4.2
  refine zv_i2l X dX9_evenScore_34 ?_
  refine zv_lload_n X dX9_evenScore_35 rfl rfl ?_
  refine zv_lmul X dX9_evenScore_36 ?_
  refine zv_aload_n X dX9_evenScore_37 rfl rfl ?_
  refine zv_iconst (v := (0 : Int32)) X dX9_evenScore_38 zic_0 ?_
  refine zb e (fun q5 gq5 e => ?_)
  refine zv_callV (stk := [.int (0 : Int32), .ref 51, .long (q4.1.toInt64 * q3.1), .ref 66]) (as := [.int (0 : Int32)]) (st := [.long (q4.1.toInt64 * q3.1), .ref 66]) (k := 51) X zl_RX9_238 zm_X2_piece (k_X2_piece_51 (d := d - 1) (by omega) gq5) (by omega) zb_51 (by rw [zk_51]; rfl) rfl rfl (Nat.le_of_ble_eq_true rfl) (Nat.le_refl _) rfl dX9_evenScore_39 ?_
  show J 42 [(3, .long q3.1), (2, .ref 51), (0, .ref 0), (1, .int a1)] [.long q5.1, .long (q4.1.toInt64 * q3.1), .ref 66] 117 zRF q5.2
  refine zv_lsub X dX9_evenScore_42 ?_
  refine zv_lload_n X dX9_evenScore_43 rfl rfl ?_
  refine zb e (fun q6 gq6 e => ?_)
  refine zv_callV (stk := [.long q3.1, .long ((q4.1.toInt64 * q3.1) - q5.1), .ref 66]) (as := [.long ((q4.1.toInt64 * q3.1) - q5.1), .long q3.1]) (st := []) (k := 66) X zl_RX9_343 zm_X2_put (k_X2_put_66 (d := d - 1) (by omega) gq6) (by omega) zb_66 (by rw [zk_66]; rfl) rfl rfl (Nat.le_of_ble_eq_true rfl) (Nat.le_refl _) rfl dX9_evenScore_44 ?_
  show J 47 [(3, .long q3.1), (2, .ref 51), (0, .ref 0), (1, .int a1)] [] 117 zRF q6
  exact zv_retV X e rfl dX9_evenScore_47
-- X2_piece_66
def s_X2_piece_66_L15 (b0 : Int64) (h : zHp) : Option (Int64 × zHp) :=
  some (b0, h)
def s_X2_piece_66 (a1 : Int32) (h : zHp) : Option (Int64 × zHp) :=
  if a1 = 0 then
    s_X2_piece_66_L15 (h.2 66 0) h
  else
    s_X2_piece_66_L15 (h.2 66 1) h
set_option maxRecDepth 100000 in
set_option maxHeartbeats 4000000 in
theorem k_X2_piece_66_L15 {l : Launch} {D : va_G} {cy : Nat → ClassId} {S0 d : Nat} {J : zJ} (q : (Int64 × zHp)) (hd : 0 ≤ d) (X : zOK l D cy S0 d RX2 cX2_piece 2 (yX2_piece.name == "<init>") 117 117 (some .long) (zRT 117 zRF (some (.long q.1)) q.2) J) : ∀ (b0 : Int64) (h : zHp), s_X2_piece_66_L15 b0 h = some q → J 15 [] [.long b0] 117 zRF h := by
  intro b0 h e
  unfold s_X2_piece_66_L15 at e
  exact zv_retL X e rfl dX2_piece_15
set_option maxRecDepth 100000 in
set_option maxHeartbeats 4000000 in
theorem k_X2_piece_66 {l : Launch} {D : va_G} {cy : Nat → ClassId} {S0 d : Nat} (hd : 0 ≤ d) {a1 : Int32} {h : zHp} {q : (Int64 × zHp)} (e : s_X2_piece_66 a1 h = some q) : zCT l D cy S0 d yX2_piece cX2_piece 2 (some .long) [.ref 66, .int a1] 117 zRF h (some (.long q.1)) 117 zRF q.2 := by
  unfold s_X2_piece_66 at e
  refine zCT_of RX2 rfl zm_X2_piece (Nat.le_refl _) (Nat.le_of_ble_eq_true rfl) (fun J X => ?_)
  show J 0 [(0, .ref 66), (1, .int a1)] [] 117 zRF h
  refine zv_iload_n X dX2_piece_0 rfl rfl ?_
  refine zv_if_ne (tgt := 11) X dX2_piece_1 (by decide) (fun c1 => ?_) (fun c1 => ?_)
  · replace e := zif e c1
    refine zv_aload_n X dX2_piece_11 rfl rfl ?_
    refine zv_getL X zf_RX2_13 zk_66 zb_66 dX2_piece_12 ?_
    exact zv_pick X [] rfl (k_X2_piece_66_L15 q hd X _ _ e)
  · replace e := zit e c1
    refine zv_aload_n X dX2_piece_4 rfl rfl ?_
    refine zv_getL X zf_RX2_7 zk_66 zb_66 dX2_piece_5 ?_
    refine zv_goto (tgt := 15) X dX2_piece_8 (by decide) ?_
    exact zv_pick X [] rfl (k_X2_piece_66_L15 q hd X _ _ e)
-- X9_evened
def s_X9_evened_L26  (h : zHp) : Option (Int64 × zHp) :=
  (s_X9_refusedLong (-2 : Int32) h).bind fun q1 =>
  some (q1.1, q1.2)
def s_X9_evened (a1 : Int32) (a2 : Int32) (h : zHp) : Option (Int64 × zHp) :=
  (s_X5_has a1 h).bind fun q1 =>
  if q1.1 = 0 then
    (s_X9_refusedLong (-1 : Int32) q1.2).bind fun q8 =>
    some (q8.1, q8.2)
  else
    if a2 < 0 then
      s_X9_evened_L26 q1.2
    else
      if a2 ≤ (1 : Int32) then
        (s_X3_learn q1.2).bind fun q5 =>
        (s_X9_evenScore a1 q5).bind fun q6 =>
        (s_X2_piece_66 a2 q6).bind fun q7 =>
        some (q7.1, q7.2)
      else
        s_X9_evened_L26 q1.2
set_option maxRecDepth 100000 in
set_option maxHeartbeats 4000000 in
theorem k_X9_evened_L26 {l : Launch} {D : va_G} {cy : Nat → ClassId} {S0 d : Nat} {J : zJ} (q : (Int64 × zHp)) (hd : 9 ≤ d) (X : zOK l D cy S0 d RX9 cX9_evened 3 (yX9_evened.name == "<init>") 117 117 (some .long) (zRT 117 zRF (some (.long q.1)) q.2) J) : ∀  (h : zHp), s_X9_evened_L26  h = some q → J 26 [(0, .ref 0)] [] 117 zRF h := by
  intro  h e
  unfold s_X9_evened_L26 at e
  refine zv_aload_n X dX9_evened_26 rfl rfl ?_
  refine zv_bipush (v := (-2 : Int32)) X dX9_evened_27 zbp_m2 ?_
  refine zb e (fun q1 gq1 e => ?_)
  refine zv_callV (stk := [.int (-2 : Int32), .ref 0]) (as := [.int (-2 : Int32)]) (st := []) (k := 0) X zl_RX9_224 zm_X9_refusedLong (k_X9_refusedLong (d := d - 1) (by omega) gq1) (by omega) zb_0 (by rw [zk_0]; rfl) rfl rfl (Nat.le_of_ble_eq_true rfl) (Nat.le_refl _) rfl dX9_evened_29 ?_
  show J 32 [(0, .ref 0)] [.long q1.1] 117 zRF q1.2
  exact zv_retL X e rfl dX9_evened_32
set_option maxRecDepth 100000 in
set_option maxHeartbeats 4000000 in
theorem k_X9_evened {l : Launch} {D : va_G} {cy : Nat → ClassId} {S0 d : Nat} (hd : 9 ≤ d) {a1 : Int32} {a2 : Int32} {h : zHp} {q : (Int64 × zHp)} (e : s_X9_evened a1 a2 h = some q) : zCT l D cy S0 d yX9_evened cX9_evened 3 (some .long) [.ref 0, .int a1, .int a2] 117 zRF h (some (.long q.1)) 117 zRF q.2 := by
  unfold s_X9_evened at e
  refine zCT_of RX9 rfl zm_X9_evened (Nat.le_refl _) (Nat.le_of_ble_eq_true rfl) (fun J X => ?_)
  show J 0 [(0, .ref 0), (1, .int a1), (2, .int a2)] [] 117 zRF h
  refine zv_aload_n X dX9_evened_0 rfl rfl ?_
  refine zv_getR X zf_RX9_45 znt_o zk_0 zb_0 zr_0_7 dX9_evened_1 ?_
  refine zv_iload_n X dX9_evened_4 rfl rfl ?_
  refine zb e (fun q1 gq1 e => ?_)
  refine zv_callV (stk := [.int a1, .ref 24]) (as := [.int a1]) (st := []) (k := 24) X zl_RX9_168 zm_X5_has (k_X5_has (d := d - 1) (by omega) gq1) (by omega) zb_24 (by rw [zk_24]; rfl) rfl rfl (Nat.le_of_ble_eq_true rfl) (Nat.le_refl _) rfl dX9_evened_5 ?_
  show J 8 [(0, .ref 0), (1, .int a1), (2, .int a2)] [.int q1.1] 117 zRF q1.2
  refine zv_if_ne (tgt := 17) X dX9_evened_8 (by decide) (fun c2 => ?_) (fun c2 => ?_)
  · replace e := zif e c2
    refine zv_iload_n X dX9_evened_17 rfl rfl ?_
    refine zv_if_lt (tgt := 26) X dX9_evened_18 (by decide) (fun c3 => ?_) (fun c3 => ?_)
    · replace e := zit e c3
      exact zv_pick X [0] rfl (k_X9_evened_L26 q hd X  _ e)
    · replace e := zif e c3
      refine zv_iload_n X dX9_evened_21 rfl rfl ?_
      refine zv_iconst (v := (1 : Int32)) X dX9_evened_22 zic_1 ?_
      refine zv_icmp_le (tgt := 33) X dX9_evened_23 (by decide) (fun c4 => ?_) (fun c4 => ?_)
      · replace e := zit e c4
        refine zv_aload_n X dX9_evened_33 rfl rfl ?_
        refine zv_getR X zf_RX9_68 znt_o zk_0 zb_0 zr_0_10 dX9_evened_34 ?_
        refine zb e (fun q5 gq5 e => ?_)
        refine zv_callV (stk := [.ref 46]) (as := []) (st := []) (k := 46) X zl_RX9_228 zm_X3_learn (k_X3_learn (d := d - 1) (by omega) gq5) (by omega) zb_46 (by rw [zk_46]; rfl) rfl rfl (Nat.le_of_ble_eq_true rfl) (Nat.le_refl _) rfl dX9_evened_37 ?_
        show J 40 [(0, .ref 0), (1, .int a1), (2, .int a2)] [] 117 zRF q5
        refine zv_aload_n X dX9_evened_40 rfl rfl ?_
        refine zv_iload_n X dX9_evened_41 rfl rfl ?_
        refine zb e (fun q6 gq6 e => ?_)
        refine zv_callV (stk := [.int a1, .ref 0]) (as := [.int a1]) (st := []) (k := 0) X zl_RX9_241 zm_X9_evenScore (k_X9_evenScore (d := d - 1) (by omega) gq6) (by omega) zb_0 (by rw [zk_0]; rfl) rfl rfl (Nat.le_of_ble_eq_true rfl) (Nat.le_refl _) rfl dX9_evened_42 ?_
        show J 45 [(0, .ref 0), (1, .int a1), (2, .int a2)] [] 117 zRF q6
        refine zv_aload_n X dX9_evened_45 rfl rfl ?_
        refine zv_getR X zf_RX9_91 znt_o zk_0 zb_0 zr_0_13 dX9_evened_46 ?_
        refine zv_iload_n X dX9_evened_49 rfl rfl ?_
        refine zb e (fun q7 gq7 e => ?_)
        refine zv_callV (stk := [.int a2, .ref 66]) (as := [.int a2]) (st := []) (k := 66) X zl_RX9_238 zm_X2_piece (k_X2_piece_66 (d := d - 1) (by omega) gq7) (by omega) zb_66 (by rw [zk_66]; rfl) rfl rfl (Nat.le_of_ble_eq_true rfl) (Nat.le_refl _) rfl dX9_evened_50 ?_
        show J 53 [(0, .ref 0), (1, .int a1), (2, .int a2)] [.long q7.1] 117 zRF q7.2
        exact zv_retL X e rfl dX9_evened_53
      · replace e := zif e c4
        exact zv_pick X [0] rfl (k_X9_evened_L26 q hd X  _ e)
  · replace e := zit e c2
    refine zv_aload_n X dX9_evened_11 rfl rfl ?_
    refine zv_iconst (v := (-1 : Int32)) X dX9_evened_12 zic_m1 ?_
    refine zb e (fun q8 gq8 e => ?_)
    refine zv_callV (stk := [.int (-1 : Int32), .ref 0]) (as := [.int (-1 : Int32)]) (st := []) (k := 0) X zl_RX9_224 zm_X9_refusedLong (k_X9_refusedLong (d := d - 1) (by omega) gq8) (by omega) zb_0 (by rw [zk_0]; rfl) rfl rfl (Nat.le_of_ble_eq_true rfl) (Nat.le_refl _) rfl dX9_evened_13 ?_
    show J 16 [(0, .ref 0), (1, .int a1), (2, .int a2)] [.long q8.1] 117 zRF q8.2
    exact zv_retL X e rfl dX9_evened_16
-- X10_findEvened
def s_X10_findEvened (a1 : Int32) (h : zHp) : Option zHp :=
  (zri h 83 80 a1).bind fun v1 =>
  (s_X10_findHabit v1 h).bind fun q2 =>
  (zri q2 84 80 a1).bind fun v3 =>
  (s_X10_scoreOf a1 v3 q2).bind fun q4 =>
  (some ((q4.1.toInt64 * (q4.2.2 67 46)) - (q4.2.2 67 45))).bind fun v5 =>
  (zpl q4.2 67 45 v5).bind fun h6 =>
  (s_X10_divisor (h6.2 67 45) (h6.2 67 46) h6).bind fun q7 =>
  (zldiv (q7.2.2 67 45) q7.1).bind fun v8 =>
  (zpl q7.2 67 45 v8).bind fun h9 =>
  (zldiv (h9.2 67 46) q7.1).bind fun v10 =>
  (zpl h9 67 46 v10).bind fun h11 =>
  some h11
set_option maxRecDepth 100000 in
set_option maxHeartbeats 4000000 in
theorem k_X10_findEvened {l : Launch} {D : va_G} {cy : Nat → ClassId} {S0 d : Nat} (hd : 4 ≤ d) {a1 : Int32} {h : zHp} {q : zHp} (e : s_X10_findEvened a1 h = some q) : zCT l D cy S0 d yX10_findEvened cX10_findEvened 4 none [.ref 67, .int a1] 117 zRF h none 117 zRF q := by
  unfold s_X10_findEvened at e
  refine zCT_of RX10 rfl zm_X10_findEvened (Nat.le_refl _) (Nat.le_of_ble_eq_true rfl) (fun J X => ?_)
  show J 0 [(0, .ref 67), (1, .int a1)] [] 117 zRF h
  refine zv_aload_n X dX10_findEvened_0 rfl rfl ?_
  refine zv_aload_n X dX10_findEvened_1 rfl rfl ?_
  refine zv_getR X zf_RX10_56 znt_a zk_67 zb_67 zr_67_19 dX10_findEvened_2 ?_
  refine zv_iload_n X dX10_findEvened_5 rfl rfl ?_
  refine zb e (fun v1 gv1 e => ?_)
  refine zv_iald X zk_83 zl_83 zb_83 dX10_findEvened_6 gv1 ?_
  refine zb e (fun q2 gq2 e => ?_)
  refine zv_callV (stk := [.int v1, .ref 67]) (as := [.int v1]) (st := []) (k := 67) X zl_RX10_288 zm_X10_findHabit (k_X10_findHabit (d := d - 1) (by omega) gq2) (by omega) zb_67 (by rw [zk_67]; rfl) rfl rfl (Nat.le_of_ble_eq_true rfl) (Nat.le_refl _) rfl dX10_findEvened_7 ?_
  show J 10 [(0, .ref 67), (1, .int a1)] [] 117 zRF q2
  refine zv_aload_n X dX10_findEvened_10 rfl rfl ?_
  refine zv_aload_n X dX10_findEvened_11 rfl rfl ?_
  refine zv_iload_n X dX10_findEvened_12 rfl rfl ?_
  refine zv_aload_n X dX10_findEvened_13 rfl rfl ?_
  refine zv_getR X zf_RX10_59 znt_a zk_67 zb_67 zr_67_20 dX10_findEvened_14 ?_
  refine zv_iload_n X dX10_findEvened_17 rfl rfl ?_
  refine zb e (fun v3 gv3 e => ?_)
  refine zv_iald X zk_84 zl_84 zb_84 dX10_findEvened_18 gv3 ?_
  refine zb e (fun q4 gq4 e => ?_)
  refine zv_callV (stk := [.int v3, .int a1, .ref 67, .ref 67]) (as := [.int a1, .int v3]) (st := [.ref 67]) (k := 67) X zl_RX10_202 zm_X10_scoreOf (k_X10_scoreOf (d := d - 1) (by omega) gq4) (by omega) zb_67 (by rw [zk_67]; rfl) rfl rfl (Nat.le_of_ble_eq_true rfl) (Nat.le_refl _) rfl dX10_findEvened_19 ?_
  show J 22 [(0, .ref 67), (1, .int a1)] [.int q4.1, .ref 67] 117 zRF q4.2
  refine zv_i2l X dX10_findEvened_22 ?_
  refine zv_aload_n X dX10_findEvened_23 rfl rfl ?_
  refine zv_getL X zf_RX10_271 zk_67 zb_67 dX10_findEvened_24 ?_
  refine zv_lmul X dX10_findEvened_27 ?_
  refine zv_aload_n X dX10_findEvened_28 rfl rfl ?_
  refine zv_getL X zf_RX10_267 zk_67 zb_67 dX10_findEvened_29 ?_
  refine zv_lsub X dX10_findEvened_32 ?_
  refine zb e (fun v5 gv5 e => ?_)
  refine zv_nmJ X gv5 ?_
  refine zb e (fun h6 gh6 e => ?_)
  refine zv_putL' X zf_RX10_267 zk_67 zb_67 dX10_findEvened_33 gh6 ?_
  refine zv_aload_n X dX10_findEvened_36 rfl rfl ?_
  refine zv_getL X zf_RX10_267 zk_67 zb_67 dX10_findEvened_37 ?_
  refine zv_aload_n X dX10_findEvened_40 rfl rfl ?_
  refine zv_getL X zf_RX10_271 zk_67 zb_67 dX10_findEvened_41 ?_
  refine zb e (fun q7 gq7 e => ?_)
  refine zv_callS (stk := [.long (h6.2 67 46), .long (h6.2 67 45)]) (as := [.long (h6.2 67 45), .long (h6.2 67 46)]) (st := []) X zl_RX10_281 zm_X10_divisor (k_X10_divisor (d := d - 1) (by omega) gq7) (by omega) rfl (Nat.le_of_ble_eq_true rfl) (Nat.le_refl _) rfl dX10_findEvened_44 ?_
  show J 47 [(0, .ref 67), (1, .int a1)] [.long q7.1] 117 zRF q7.2
  refine zv_lstore_n (i := 2) (lv' := [(2, .long q7.1), (0, .ref 67), (1, .int a1)]) X dX10_findEvened_47 rfl (Nat.le_of_ble_eq_true rfl) rfl ?_
  refine zv_aload_n X dX10_findEvened_48 rfl rfl ?_
  refine zv_dup_r X dX10_findEvened_49 ?_
  refine zv_getL X zf_RX10_267 zk_67 zb_67 dX10_findEvened_50 ?_
  refine zv_lload_n X dX10_findEvened_53 rfl rfl ?_
  refine zb e (fun v8 gv8 e => ?_)
  refine zv_ldiv X dX10_findEvened_54 gv8 ?_
  refine zb e (fun h9 gh9 e => ?_)
  refine zv_putL' X zf_RX10_267 zk_67 zb_67 dX10_findEvened_55 gh9 ?_
  refine zv_aload_n X dX10_findEvened_58 rfl rfl ?_
  refine zv_dup_r X dX10_findEvened_59 ?_
  refine zv_getL X zf_RX10_271 zk_67 zb_67 dX10_findEvened_60 ?_
  refine zv_lload_n X dX10_findEvened_63 rfl rfl ?_
  refine zb e (fun v10 gv10 e => ?_)
  refine zv_ldiv X dX10_findEvened_64 gv10 ?_
  refine zb e (fun h11 gh11 e => ?_)
  refine zv_putL' X zf_RX10_271 zk_67 zb_67 dX10_findEvened_65 gh11 ?_
  exact zv_retV X e rfl dX10_findEvened_68
-- X10_evened
def s_X10_evened_L50 (b0 : Int64) (h : zHp) : Option (Int64 × zHp) :=
  some (b0, h)
def s_X10_evened (a1 : Int32) (a2 : Int32) (h : zHp) : Option (Int64 × zHp) :=
  (s_X10_isLook a1 h).bind fun q1 =>
  if q1.1 = 0 then
    (s_X10_refuseFar (-1 : Int32) q1.2).bind fun q8 =>
    some (q8.1, q8.2)
  else
    (s_X10_in a2 (0 : Int32) (1 : Int32) q1.2).bind fun q3 =>
    if q3.1 = 0 then
      (s_X10_refuseFar (-2 : Int32) q3.2).bind fun q7 =>
      some (q7.1, q7.2)
    else
      (s_X10_findEvened a1 q3.2).bind fun q5 =>
      if a2 = 0 then
        s_X10_evened_L50 (q5.2 67 45) q5
      else
        s_X10_evened_L50 (q5.2 67 46) q5
set_option maxRecDepth 100000 in
set_option maxHeartbeats 4000000 in
theorem k_X10_evened_L50 {l : Launch} {D : va_G} {cy : Nat → ClassId} {S0 d : Nat} {J : zJ} (q : (Int64 × zHp)) (hd : 5 ≤ d) (X : zOK l D cy S0 d RX10 cX10_evened 3 (yX10_evened.name == "<init>") 117 117 (some .long) (zRT 117 zRF (some (.long q.1)) q.2) J) : ∀ (b0 : Int64) (h : zHp), s_X10_evened_L50 b0 h = some q → J 50 [] [.long b0] 117 zRF h := by
  intro b0 h e
  unfold s_X10_evened_L50 at e
  exact zv_retL X e rfl dX10_evened_50
set_option maxRecDepth 100000 in
set_option maxHeartbeats 4000000 in
theorem k_X10_evened {l : Launch} {D : va_G} {cy : Nat → ClassId} {S0 d : Nat} (hd : 5 ≤ d) {a1 : Int32} {a2 : Int32} {h : zHp} {q : (Int64 × zHp)} (e : s_X10_evened a1 a2 h = some q) : zCT l D cy S0 d yX10_evened cX10_evened 3 (some .long) [.ref 67, .int a1, .int a2] 117 zRF h (some (.long q.1)) 117 zRF q.2 := by
  unfold s_X10_evened at e
  refine zCT_of RX10 rfl zm_X10_evened (Nat.le_refl _) (Nat.le_of_ble_eq_true rfl) (fun J X => ?_)
  show J 0 [(0, .ref 67), (1, .int a1), (2, .int a2)] [] 117 zRF h
  refine zv_aload_n X dX10_evened_0 rfl rfl ?_
  refine zv_iload_n X dX10_evened_1 rfl rfl ?_
  refine zb e (fun q1 gq1 e => ?_)
  refine zv_callV (stk := [.int a1, .ref 67]) (as := [.int a1]) (st := []) (k := 67) X zl_RX10_199 zm_X10_isLook (k_X10_isLook (d := d - 1) (by omega) gq1) (by omega) zb_67 (by rw [zk_67]; rfl) rfl rfl (Nat.le_of_ble_eq_true rfl) (Nat.le_refl _) rfl dX10_evened_2 ?_
  show J 5 [(0, .ref 67), (1, .int a1), (2, .int a2)] [.int q1.1] 117 zRF q1.2
  refine zv_if_ne (tgt := 14) X dX10_evened_5 (by decide) (fun c2 => ?_) (fun c2 => ?_)
  · replace e := zif e c2
    refine zv_iload_n X dX10_evened_14 rfl rfl ?_
    refine zv_iconst (v := (0 : Int32)) X dX10_evened_15 zic_0 ?_
    refine zv_iconst (v := (1 : Int32)) X dX10_evened_16 zic_1 ?_
    refine zb e (fun q3 gq3 e => ?_)
    refine zv_callS (stk := [.int (1 : Int32), .int (0 : Int32), .int a2]) (as := [.int a2, .int (0 : Int32), .int (1 : Int32)]) (st := []) X zl_RX10_168 zm_X10_in (k_X10_in (d := d - 1) (by omega) gq3) (by omega) rfl (Nat.le_of_ble_eq_true rfl) (Nat.le_refl _) rfl dX10_evened_17 ?_
    show J 20 [(0, .ref 67), (1, .int a1), (2, .int a2)] [.int q3.1] 117 zRF q3.2
    refine zv_if_ne (tgt := 30) X dX10_evened_20 (by decide) (fun c4 => ?_) (fun c4 => ?_)
    · replace e := zif e c4
      refine zv_aload_n X dX10_evened_30 rfl rfl ?_
      refine zv_iload_n X dX10_evened_31 rfl rfl ?_
      refine zb e (fun q5 gq5 e => ?_)
      refine zv_callV (stk := [.int a1, .ref 67]) (as := [.int a1]) (st := []) (k := 67) X zl_RX10_292 zm_X10_findEvened (k_X10_findEvened (d := d - 1) (by omega) gq5) (by omega) zb_67 (by rw [zk_67]; rfl) rfl rfl (Nat.le_of_ble_eq_true rfl) (Nat.le_refl _) rfl dX10_evened_32 ?_
      show J 35 [(0, .ref 67), (1, .int a1), (2, .int a2)] [] 117 zRF q5
      refine zv_iload_n X dX10_evened_35 rfl rfl ?_
      refine zv_if_ne (tgt := 46) X dX10_evened_36 (by decide) (fun c6 => ?_) (fun c6 => ?_)
      · replace e := zif e c6
        refine zv_aload_n X dX10_evened_46 rfl rfl ?_
        refine zv_getL X zf_RX10_271 zk_67 zb_67 dX10_evened_47 ?_
        exact zv_pick X [] rfl (k_X10_evened_L50 q hd X _ _ e)
      · replace e := zit e c6
        refine zv_aload_n X dX10_evened_39 rfl rfl ?_
        refine zv_getL X zf_RX10_267 zk_67 zb_67 dX10_evened_40 ?_
        refine zv_goto (tgt := 50) X dX10_evened_43 (by decide) ?_
        exact zv_pick X [] rfl (k_X10_evened_L50 q hd X _ _ e)
    · replace e := zit e c4
      refine zv_aload_n X dX10_evened_23 rfl rfl ?_
      refine zv_bipush (v := (-2 : Int32)) X dX10_evened_24 zbp_m2 ?_
      refine zb e (fun q7 gq7 e => ?_)
      refine zv_callV (stk := [.int (-2 : Int32), .ref 67]) (as := [.int (-2 : Int32)]) (st := []) (k := 67) X zl_RX10_285 zm_X10_refuseFar (k_X10_refuseFar (d := d - 1) (by omega) gq7) (by omega) zb_67 (by rw [zk_67]; rfl) rfl rfl (Nat.le_of_ble_eq_true rfl) (Nat.le_refl _) rfl dX10_evened_26 ?_
      show J 29 [(0, .ref 67), (1, .int a1), (2, .int a2)] [.long q7.1] 117 zRF q7.2
      exact zv_retL X e rfl dX10_evened_29
  · replace e := zit e c2
    refine zv_aload_n X dX10_evened_8 rfl rfl ?_
    refine zv_iconst (v := (-1 : Int32)) X dX10_evened_9 zic_m1 ?_
    refine zb e (fun q8 gq8 e => ?_)
    refine zv_callV (stk := [.int (-1 : Int32), .ref 67]) (as := [.int (-1 : Int32)]) (st := []) (k := 67) X zl_RX10_285 zm_X10_refuseFar (k_X10_refuseFar (d := d - 1) (by omega) gq8) (by omega) zb_67 (by rw [zk_67]; rfl) rfl rfl (Nat.le_of_ble_eq_true rfl) (Nat.le_refl _) rfl dX10_evened_10 ?_
    show J 13 [(0, .ref 67), (1, .int a1), (2, .int a2)] [.long q8.1] 117 zRF q8.2
    exact zv_retL X e rfl dX10_evened_13
-- X9_isOtherWhenEvened
def s_X9_isOtherWhenEvened_L70 (b0 : Int32) (h : zHp) : Option (Int32 × zHp) :=
  (zbo b0).bind fun u1 =>
  some (b0, h)
def s_X9_isOtherWhenEvened_L69  (h : zHp) : Option (Int32 × zHp) :=
  s_X9_isOtherWhenEvened_L70 (0 : Int32) h
def s_X9_isOtherWhenEvened (a1 : Int32) (h : zHp) : Option (Int32 × zHp) :=
  (s_X5_dayOf a1 h).bind fun q1 =>
  (s_X5_ownScore a1 q1.2).bind fun q2 =>
  (s_X6_starOn q1.1 q2.1.toInt64 (1 : Int64) q2.2).bind fun q3 =>
  (s_X9_evenScore a1 q3.2).bind fun q4 =>
  if q3.1 = 0 then
    s_X9_isOtherWhenEvened_L69 q4
  else
    (s_X2_piece_66 (0 : Int32) q4).bind fun q6 =>
    (s_X2_piece_66 (1 : Int32) q6.2).bind fun q7 =>
    (s_X6_starOn q1.1 q6.1 q7.1 q7.2).bind fun q8 =>
    if q3.1 = q8.1 then
      s_X9_isOtherWhenEvened_L69 q8.2
    else
      s_X9_isOtherWhenEvened_L70 (1 : Int32) q8.2
set_option maxRecDepth 100000 in
set_option maxHeartbeats 4000000 in
theorem k_X9_isOtherWhenEvened_L70 {l : Launch} {D : va_G} {cy : Nat → ClassId} {S0 d : Nat} {J : zJ} (q : (Int32 × zHp)) (hd : 9 ≤ d) (X : zOK l D cy S0 d RX9 cX9_isOtherWhenEvened 4 (yX9_isOtherWhenEvened.name == "<init>") 117 117 (some .boolean) (zRT 117 zRF (some (.int q.1)) q.2) J) : ∀ (b0 : Int32) (h : zHp), s_X9_isOtherWhenEvened_L70 b0 h = some q → J 70 [] [.int b0] 117 zRF h := by
  intro b0 h e
  unfold s_X9_isOtherWhenEvened_L70 at e
  refine zb e (fun u gu e => ?_)
  exact zv_retZ X e rfl (zbo_ok gu) dX9_isOtherWhenEvened_70
set_option maxRecDepth 100000 in
set_option maxHeartbeats 4000000 in
theorem k_X9_isOtherWhenEvened_L69 {l : Launch} {D : va_G} {cy : Nat → ClassId} {S0 d : Nat} {J : zJ} (q : (Int32 × zHp)) (hd : 9 ≤ d) (X : zOK l D cy S0 d RX9 cX9_isOtherWhenEvened 4 (yX9_isOtherWhenEvened.name == "<init>") 117 117 (some .boolean) (zRT 117 zRF (some (.int q.1)) q.2) J) : ∀  (h : zHp), s_X9_isOtherWhenEvened_L69  h = some q → J 69 [] [] 117 zRF h := by
  intro  h e
  unfold s_X9_isOtherWhenEvened_L69 at e
  refine zv_iconst (v := (0 : Int32)) X dX9_isOtherWhenEvened_69 zic_0 ?_
  exact k_X9_isOtherWhenEvened_L70 q hd X _ _ e
set_option maxRecDepth 100000 in
set_option maxHeartbeats 4000000 in
theorem k_X9_isOtherWhenEvened {l : Launch} {D : va_G} {cy : Nat → ClassId} {S0 d : Nat} (hd : 9 ≤ d) {a1 : Int32} {h : zHp} {q : (Int32 × zHp)} (e : s_X9_isOtherWhenEvened a1 h = some q) : zCT l D cy S0 d yX9_isOtherWhenEvened cX9_isOtherWhenEvened 4 (some .boolean) [.ref 0, .int a1] 117 zRF h (some (.int q.1)) 117 zRF q.2 := by
  unfold s_X9_isOtherWhenEvened at e
  refine zCT_of RX9 rfl zm_X9_isOtherWhenEvened (Nat.le_refl _) (Nat.le_of_ble_eq_true rfl) (fun J X => ?_)
  show J 0 [(0, .ref 0), (1, .int a1)] [] 117 zRF h
  refine zv_aload_n X dX9_isOtherWhenEvened_0 rfl rfl ?_
  refine zv_getR X zf_RX9_45 znt_o zk_0 zb_0 zr_0_7 dX9_isOtherWhenEvened_1 ?_
  refine zv_iload_n X dX9_isOtherWhenEvened_4 rfl rfl ?_
  refine zb e (fun q1 gq1 e => ?_)
  refine zv_callV (stk := [.int a1, .ref 24]) (as := [.int a1]) (st := []) (k := 24) X zl_RX9_172 zm_X5_dayOf (k_X5_dayOf (d := d - 1) (by omega) gq1) (by omega) zb_24 (by rw [zk_24]; rfl) rfl rfl (Nat.le_of_ble_eq_true rfl) (Nat.le_refl _) rfl dX9_isOtherWhenEvened_5 ?_
  show J 8 [(0, .ref 0), (1, .int a1)] [.int q1.1] 117 zRF q1.2
  refine zv_istore_n (i := 2) (lv' := [(2, .int q1.1), (0, .ref 0), (1, .int a1)]) X dX9_isOtherWhenEvened_8 rfl (Nat.le_of_ble_eq_true rfl) rfl ?_
  refine zv_aload_n X dX9_isOtherWhenEvened_9 rfl rfl ?_
  refine zv_getR X zf_RX9_52 znt_o zk_0 zb_0 zr_0_8 dX9_isOtherWhenEvened_10 ?_
  refine zv_iload_n X dX9_isOtherWhenEvened_13 rfl rfl ?_
  refine zv_aload_n X dX9_isOtherWhenEvened_14 rfl rfl ?_
  refine zv_getR X zf_RX9_45 znt_o zk_0 zb_0 zr_0_7 dX9_isOtherWhenEvened_15 ?_
  refine zv_iload_n X dX9_isOtherWhenEvened_18 rfl rfl ?_
  refine zb e (fun q2 gq2 e => ?_)
  refine zv_callV (stk := [.int a1, .ref 24, .int q1.1, .ref 32]) (as := [.int a1]) (st := [.int q1.1, .ref 32]) (k := 24) X zl_RX9_340 zm_X5_ownScore (k_X5_ownScore (d := d - 1) (by omega) gq2) (by omega) zb_24 (by rw [zk_24]; rfl) rfl rfl (Nat.le_of_ble_eq_true rfl) (Nat.le_refl _) rfl dX9_isOtherWhenEvened_19 ?_
  show J 22 [(2, .int q1.1), (0, .ref 0), (1, .int a1)] [.int q2.1, .int q1.1, .ref 32] 117 zRF q2.2
  refine zv_i2l X dX9_isOtherWhenEvened_22 ?_
  refine zv_lconst (v := (1 : Int64)) X dX9_isOtherWhenEvened_23 rfl ?_
  refine zb e (fun q3 gq3 e => ?_)
  refine zv_callV (stk := [.long (1 : Int64), .long q2.1.toInt64, .int q1.1, .ref 32]) (as := [.int q1.1, .long q2.1.toInt64, .long (1 : Int64)]) (st := []) (k := 32) X zl_RX9_300 zm_X6_starOn (k_X6_starOn (d := d - 1) (by omega) gq3) (by omega) zb_32 (by rw [zk_32]; rfl) rfl rfl (Nat.le_of_ble_eq_true rfl) (Nat.le_refl _) rfl dX9_isOtherWhenEvened_24 ?_
  show J 27 [(2, .int q1.1), (0, .ref 0), (1, .int a1)] [.int q3.1] 117 zRF q3.2
  refine zv_istore_n (i := 3) (lv' := [(3, .int q3.1), (2, .int q1.1), (0, .ref 0), (1, .int a1)]) X dX9_isOtherWhenEvened_27 rfl (Nat.le_of_ble_eq_true rfl) rfl ?_
  refine zv_aload_n X dX9_isOtherWhenEvened_28 rfl rfl ?_
  refine zv_iload_n X dX9_isOtherWhenEvened_29 rfl rfl ?_
  refine zb e (fun q4 gq4 e => ?_)
  refine zv_callV (stk := [.int a1, .ref 0]) (as := [.int a1]) (st := []) (k := 0) X zl_RX9_241 zm_X9_evenScore (k_X9_evenScore (d := d - 1) (by omega) gq4) (by omega) zb_0 (by rw [zk_0]; rfl) rfl rfl (Nat.le_of_ble_eq_true rfl) (Nat.le_refl _) rfl dX9_isOtherWhenEvened_30 ?_
  show J 33 [(3, .int q3.1), (2, .int q1.1), (0, .ref 0), (1, .int a1)] [] 117 zRF q4
  refine zv_iload_n X dX9_isOtherWhenEvened_33 rfl rfl ?_
  refine zv_if_eq (tgt := 69) X dX9_isOtherWhenEvened_34 (by decide) (fun c5 => ?_) (fun c5 => ?_)
  · replace e := zit e c5
    exact zv_pick X [] rfl (k_X9_isOtherWhenEvened_L69 q hd X  _ e)
  · replace e := zif e c5
    refine zv_iload_n X dX9_isOtherWhenEvened_37 rfl rfl ?_
    refine zv_aload_n X dX9_isOtherWhenEvened_38 rfl rfl ?_
    refine zv_getR X zf_RX9_52 znt_o zk_0 zb_0 zr_0_8 dX9_isOtherWhenEvened_39 ?_
    refine zv_iload_n X dX9_isOtherWhenEvened_42 rfl rfl ?_
    refine zv_aload_n X dX9_isOtherWhenEvened_43 rfl rfl ?_
    refine zv_getR X zf_RX9_91 znt_o zk_0 zb_0 zr_0_13 dX9_isOtherWhenEvened_44 ?_
    refine zv_iconst (v := (0 : Int32)) X dX9_isOtherWhenEvened_47 zic_0 ?_
    refine zb e (fun q6 gq6 e => ?_)
    refine zv_callV (stk := [.int (0 : Int32), .ref 66, .int q1.1, .ref 32, .int q3.1]) (as := [.int (0 : Int32)]) (st := [.int q1.1, .ref 32, .int q3.1]) (k := 66) X zl_RX9_238 zm_X2_piece (k_X2_piece_66 (d := d - 1) (by omega) gq6) (by omega) zb_66 (by rw [zk_66]; rfl) rfl rfl (Nat.le_of_ble_eq_true rfl) (Nat.le_refl _) rfl dX9_isOtherWhenEvened_48 ?_
    show J 51 [(3, .int q3.1), (2, .int q1.1), (0, .ref 0), (1, .int a1)] [.long q6.1, .int q1.1, .ref 32, .int q3.1] 117 zRF q6.2
    refine zv_aload_n X dX9_isOtherWhenEvened_51 rfl rfl ?_
    refine zv_getR X zf_RX9_91 znt_o zk_0 zb_0 zr_0_13 dX9_isOtherWhenEvened_52 ?_
    refine zv_iconst (v := (1 : Int32)) X dX9_isOtherWhenEvened_55 zic_1 ?_
    refine zb e (fun q7 gq7 e => ?_)
    refine zv_callV (stk := [.int (1 : Int32), .ref 66, .long q6.1, .int q1.1, .ref 32, .int q3.1]) (as := [.int (1 : Int32)]) (st := [.long q6.1, .int q1.1, .ref 32, .int q3.1]) (k := 66) X zl_RX9_238 zm_X2_piece (k_X2_piece_66 (d := d - 1) (by omega) gq7) (by omega) zb_66 (by rw [zk_66]; rfl) rfl rfl (Nat.le_of_ble_eq_true rfl) (Nat.le_refl _) rfl dX9_isOtherWhenEvened_56 ?_
    show J 59 [(3, .int q3.1), (2, .int q1.1), (0, .ref 0), (1, .int a1)] [.long q7.1, .long q6.1, .int q1.1, .ref 32, .int q3.1] 117 zRF q7.2
    refine zb e (fun q8 gq8 e => ?_)
    refine zv_callV (stk := [.long q7.1, .long q6.1, .int q1.1, .ref 32, .int q3.1]) (as := [.int q1.1, .long q6.1, .long q7.1]) (st := [.int q3.1]) (k := 32) X zl_RX9_300 zm_X6_starOn (k_X6_starOn (d := d - 1) (by omega) gq8) (by omega) zb_32 (by rw [zk_32]; rfl) rfl rfl (Nat.le_of_ble_eq_true rfl) (Nat.le_refl _) rfl dX9_isOtherWhenEvened_59 ?_
    show J 62 [(3, .int q3.1), (2, .int q1.1), (0, .ref 0), (1, .int a1)] [.int q8.1, .int q3.1] 117 zRF q8.2
    refine zv_icmp_eq (tgt := 69) X dX9_isOtherWhenEvened_62 (by decide) (fun c9 => ?_) (fun c9 => ?_)
    · replace e := zit e c9
      exact zv_pick X [] rfl (k_X9_isOtherWhenEvened_L69 q hd X  _ e)
    · replace e := zif e c9
      refine zv_iconst (v := (1 : Int32)) X dX9_isOtherWhenEvened_65 zic_1 ?_
      refine zv_goto (tgt := 70) X dX9_isOtherWhenEvened_66 (by decide) ?_
      exact zv_pick X [] rfl (k_X9_isOtherWhenEvened_L70 q hd X _ _ e)
-- X9_others
def s_X9_others_L54 (k11 : Int32 → Int32 → zHp → Option (Int32 × zHp)) (a1 : Int32) (a2 : Int32) (h : zHp) : Option (Int32 × zHp) :=
  k11 a1 (a2 + (1 : Int32)) h
def s_X9_others_L11 : Nat → Int32 → Int32 → zHp → Option (Int32 × zHp)
  | 0, _, _, _ => none
  | f + 1, a1, a2, h =>
  (s_X4_size h).bind fun q1 =>
  if q1.1 ≤ a2 then
    some (a1, q1.2)
  else
    (s_X5_latestOf a2 (q1.2.1 0 14) (q1.2.1 0 14) q1.2).bind fun q3 =>
    if q3.1 < 0 then
      s_X9_others_L54 (s_X9_others_L11 f) a1 a2 q3.2
    else
      (s_X9_isOtherWhenEvened q3.1 q3.2).bind fun q5 =>
      if q5.1 = 0 then
        s_X9_others_L54 (s_X9_others_L11 f) a1 a2 q5.2
      else
        s_X9_others_L54 (s_X9_others_L11 f) (a1 + (1 : Int32)) a2 q5.2
def s_X9_others  (h : zHp) : Option (Int32 × zHp) :=
  (s_X3_learn h).bind fun q1 =>
  s_X9_others_L11 zFU (0 : Int32) (0 : Int32) q1
set_option maxRecDepth 100000 in
set_option maxHeartbeats 4000000 in
theorem k_X9_others_L54 {l : Launch} {D : va_G} {cy : Nat → ClassId} {S0 d : Nat} {J : zJ} (q : (Int32 × zHp)) (hd : 10 ≤ d) (X : zOK l D cy S0 d RX9 cX9_others 4 (yX9_others.name == "<init>") 117 117 (some .int) (zRT 117 zRF (some (.int q.1)) q.2) J) {k11 : Int32 → Int32 → zHp → Option (Int32 × zHp)} (hk11 : ∀ (a1 : Int32) (a2 : Int32) (h : zHp), k11 a1 a2 h = some q → J 11 [(0, .ref 0), (1, .int a1), (2, .int a2)] [] 117 zRF h) : ∀ (a1 : Int32) (a2 : Int32) (h : zHp), s_X9_others_L54 k11 a1 a2 h = some q → J 54 [(0, .ref 0), (1, .int a1), (2, .int a2)] [] 117 zRF h := by
  intro a1 a2 h e
  unfold s_X9_others_L54 at e
  refine zv_iinc (k := 2) (v := a2 + (1 : Int32)) (lv' := [(2, .int (a2 + (1 : Int32))), (0, .ref 0), (1, .int a1)]) X dX9_others_54 rfl rfl (Nat.le_of_ble_eq_true rfl) rfl ?_
  refine zv_goto (tgt := 11) X dX9_others_57 (by decide) ?_
  exact zv_pick X [1, 2, 0] rfl (hk11 _ _ _ e)
set_option maxRecDepth 100000 in
set_option maxHeartbeats 4000000 in
theorem k_X9_others_L11 {l : Launch} {D : va_G} {cy : Nat → ClassId} {S0 d : Nat} {J : zJ} (q : (Int32 × zHp)) (hd : 10 ≤ d) (X : zOK l D cy S0 d RX9 cX9_others 4 (yX9_others.name == "<init>") 117 117 (some .int) (zRT 117 zRF (some (.int q.1)) q.2) J) : ∀ (f : Nat) (a1 : Int32) (a2 : Int32) (h : zHp), s_X9_others_L11 f a1 a2 h = some q → J 11 [(0, .ref 0), (1, .int a1), (2, .int a2)] [] 117 zRF h := by
  intro f
  induction f with
  | zero => intro _ _ h e; exact absurd e (fun z => by cases z)
  | succ f ih =>
    intro a1 a2 h e
    rw [s_X9_others_L11] at e
    refine zv_iload_n X dX9_others_11 rfl rfl ?_
    refine zv_aload_n X dX9_others_12 rfl rfl ?_
    refine zv_getR X zf_RX9_36 znt_o zk_0 zb_0 zr_0_6 dX9_others_13 ?_
    refine zb e (fun q1 gq1 e => ?_)
    refine zv_callV (stk := [.ref 13, .int a2]) (as := []) (st := [.int a2]) (k := 13) X zl_RX9_199 zm_X4_size (k_X4_size (d := d - 1) (by omega) gq1) (by omega) zb_13 (by rw [zk_13]; rfl) rfl rfl (Nat.le_of_ble_eq_true rfl) (Nat.le_refl _) rfl dX9_others_16 ?_
    show J 19 [(0, .ref 0), (1, .int a1), (2, .int a2)] [.int q1.1, .int a2] 117 zRF q1.2
    refine zv_icmp_ge (tgt := 60) X dX9_others_19 (by decide) (fun c2 => ?_) (fun c2 => ?_)
    · replace e := zit e c2
      refine zv_iload_n X dX9_others_60 rfl rfl ?_
      exact zv_retI X e rfl dX9_others_61
    · replace e := zif e c2
      refine zv_aload_n X dX9_others_22 rfl rfl ?_
      refine zv_getR X zf_RX9_45 znt_o zk_0 zb_0 zr_0_7 dX9_others_23 ?_
      refine zv_iload_n X dX9_others_26 rfl rfl ?_
      refine zv_aload_n X dX9_others_27 rfl rfl ?_
      refine zv_getI X zf_RX9_95 zk_0 zb_0 dX9_others_28 ?_
      refine zv_aload_n X dX9_others_31 rfl rfl ?_
      refine zv_getI X zf_RX9_95 zk_0 zb_0 dX9_others_32 ?_
      refine zb e (fun q3 gq3 e => ?_)
      refine zv_callV (stk := [.int (q1.2.1 0 14), .int (q1.2.1 0 14), .int a2, .ref 24]) (as := [.int a2, .int (q1.2.1 0 14), .int (q1.2.1 0 14)]) (st := []) (k := 24) X zl_RX9_245 zm_X5_latestOf (k_X5_latestOf (d := d - 1) (by omega) gq3) (by omega) zb_24 (by rw [zk_24]; rfl) rfl rfl (Nat.le_of_ble_eq_true rfl) (Nat.le_refl _) rfl dX9_others_35 ?_
      show J 38 [(0, .ref 0), (1, .int a1), (2, .int a2)] [.int q3.1] 117 zRF q3.2
      refine zv_istore_n (i := 3) (lv' := [(3, .int q3.1), (0, .ref 0), (1, .int a1), (2, .int a2)]) X dX9_others_38 rfl (Nat.le_of_ble_eq_true rfl) rfl ?_
      refine zv_iload_n X dX9_others_39 rfl rfl ?_
      refine zv_if_lt (tgt := 54) X dX9_others_40 (by decide) (fun c4 => ?_) (fun c4 => ?_)
      · replace e := zit e c4
        exact zv_pick X [1, 2, 3] rfl (k_X9_others_L54 q hd X ih _ _ _ e)
      · replace e := zif e c4
        refine zv_aload_n X dX9_others_43 rfl rfl ?_
        refine zv_iload_n X dX9_others_44 rfl rfl ?_
        refine zb e (fun q5 gq5 e => ?_)
        refine zv_callV (stk := [.int q3.1, .ref 0]) (as := [.int q3.1]) (st := []) (k := 0) X zl_RX9_248 zm_X9_isOtherWhenEvened (k_X9_isOtherWhenEvened (d := d - 1) (by omega) gq5) (by omega) zb_0 (by rw [zk_0]; rfl) rfl rfl (Nat.le_of_ble_eq_true rfl) (Nat.le_refl _) rfl dX9_others_45 ?_
        show J 48 [(3, .int q3.1), (0, .ref 0), (1, .int a1), (2, .int a2)] [.int q5.1] 117 zRF q5.2
        refine zv_if_eq (tgt := 54) X dX9_others_48 (by decide) (fun c6 => ?_) (fun c6 => ?_)
        · replace e := zit e c6
          exact zv_pick X [1, 2, 3] rfl (k_X9_others_L54 q hd X ih _ _ _ e)
        · replace e := zif e c6
          refine zv_iinc (k := 2) (v := a1 + (1 : Int32)) (lv' := [(1, .int (a1 + (1 : Int32))), (3, .int q3.1), (0, .ref 0), (2, .int a2)]) X dX9_others_51 rfl rfl (Nat.le_of_ble_eq_true rfl) rfl ?_
          exact zv_pick X [2, 0, 3] rfl (k_X9_others_L54 q hd X ih _ _ _ e)
set_option maxRecDepth 100000 in
set_option maxHeartbeats 4000000 in
theorem k_X9_others {l : Launch} {D : va_G} {cy : Nat → ClassId} {S0 d : Nat} (hd : 10 ≤ d) {h : zHp} {q : (Int32 × zHp)} (e : s_X9_others  h = some q) : zCT l D cy S0 d yX9_others cX9_others 4 (some .int) [.ref 0] 117 zRF h (some (.int q.1)) 117 zRF q.2 := by
  unfold s_X9_others at e
  refine zCT_of RX9 rfl zm_X9_others (Nat.le_refl _) (Nat.le_of_ble_eq_true rfl) (fun J X => ?_)
  show J 0 [(0, .ref 0)] [] 117 zRF h
  refine zv_aload_n X dX9_others_0 rfl rfl ?_
  refine zv_getR X zf_RX9_68 znt_o zk_0 zb_0 zr_0_10 dX9_others_1 ?_
  refine zb e (fun q1 gq1 e => ?_)
  refine zv_callV (stk := [.ref 46]) (as := []) (st := []) (k := 46) X zl_RX9_228 zm_X3_learn (k_X3_learn (d := d - 1) (by omega) gq1) (by omega) zb_46 (by rw [zk_46]; rfl) rfl rfl (Nat.le_of_ble_eq_true rfl) (Nat.le_refl _) rfl dX9_others_4 ?_
  show J 7 [(0, .ref 0)] [] 117 zRF q1
  refine zv_iconst (v := (0 : Int32)) X dX9_others_7 zic_0 ?_
  refine zv_istore_n (i := 1) (lv' := [(1, .int (0 : Int32)), (0, .ref 0)]) X dX9_others_8 rfl (Nat.le_of_ble_eq_true rfl) rfl ?_
  refine zv_iconst (v := (0 : Int32)) X dX9_others_9 zic_0 ?_
  refine zv_istore_n (i := 2) (lv' := [(2, .int (0 : Int32)), (1, .int (0 : Int32)), (0, .ref 0)]) X dX9_others_10 rfl (Nat.le_of_ble_eq_true rfl) rfl ?_
  exact zv_pick X [2, 1, 0] rfl (k_X9_others_L11 q hd X _ _ _ _ e)
-- X10_others
def s_X10_others_L82 (k4 : Int32 → Int32 → zHp → Option (Int32 × zHp)) (a1 : Int32) (a2 : Int32) (h : zHp) : Option (Int32 × zHp) :=
  k4 a1 (a2 + (1 : Int32)) h
def s_X10_others_L80 (k4 : Int32 → Int32 → zHp → Option (Int32 × zHp)) (a2 : Int32) (b0 : Int32) (b1 : Int32) (h : zHp) : Option (Int32 × zHp) :=
  (some (b0 + b1)).bind fun v1 =>
  s_X10_others_L82 k4 v1 a2 h
def s_X10_others_L4 : Nat → Int32 → Int32 → zHp → Option (Int32 × zHp)
  | 0, _, _, _ => none
  | f + 1, a1, a2, h =>
  if (h.1 67 8) ≤ a2 then
    some (a1, h)
  else
    (s_X10_lookOn a2 (h.1 67 0) (h.1 67 0) h).bind fun q2 =>
    (s_X10_starOf a2 (q2.2.1 67 0) (q2.2.1 67 0) q2.2).bind fun q3 =>
    if q3.1 ≤ 0 then
      s_X10_others_L82 (s_X10_others_L4 f) a1 a2 q3.2
    else
      (s_X10_findEvened q2.1 q3.2).bind fun q5 =>
      (zri q5 84 80 q2.1).bind fun v6 =>
      (s_X10_starBy (q5.2 67 45) (q5.2 67 46) v6 q5).bind fun q7 =>
      if q7.1 = q3.1 then
        s_X10_others_L80 (s_X10_others_L4 f) a2 a1 (0 : Int32) q7.2
      else
        s_X10_others_L80 (s_X10_others_L4 f) a2 a1 (1 : Int32) q7.2
def s_X10_others  (h : zHp) : Option (Int32 × zHp) :=
  s_X10_others_L4 zFU (0 : Int32) (0 : Int32) h
set_option maxRecDepth 100000 in
set_option maxHeartbeats 4000000 in
theorem k_X10_others_L82 {l : Launch} {D : va_G} {cy : Nat → ClassId} {S0 d : Nat} {J : zJ} (q : (Int32 × zHp)) (hd : 5 ≤ d) (X : zOK l D cy S0 d RX10 cX10_others 5 (yX10_others.name == "<init>") 117 117 (some .int) (zRT 117 zRF (some (.int q.1)) q.2) J) {k4 : Int32 → Int32 → zHp → Option (Int32 × zHp)} (hk4 : ∀ (a1 : Int32) (a2 : Int32) (h : zHp), k4 a1 a2 h = some q → J 4 [(0, .ref 67), (1, .int a1), (2, .int a2)] [] 117 zRF h) : ∀ (a1 : Int32) (a2 : Int32) (h : zHp), s_X10_others_L82 k4 a1 a2 h = some q → J 82 [(0, .ref 67), (1, .int a1), (2, .int a2)] [] 117 zRF h := by
  intro a1 a2 h e
  unfold s_X10_others_L82 at e
  refine zv_iinc (k := 2) (v := a2 + (1 : Int32)) (lv' := [(2, .int (a2 + (1 : Int32))), (0, .ref 67), (1, .int a1)]) X dX10_others_82 rfl rfl (Nat.le_of_ble_eq_true rfl) rfl ?_
  refine zv_goto (tgt := 4) X dX10_others_85 (by decide) ?_
  exact zv_pick X [1, 2, 0] rfl (hk4 _ _ _ e)
set_option maxRecDepth 100000 in
set_option maxHeartbeats 4000000 in
theorem k_X10_others_L80 {l : Launch} {D : va_G} {cy : Nat → ClassId} {S0 d : Nat} {J : zJ} (q : (Int32 × zHp)) (hd : 5 ≤ d) (X : zOK l D cy S0 d RX10 cX10_others 5 (yX10_others.name == "<init>") 117 117 (some .int) (zRT 117 zRF (some (.int q.1)) q.2) J) {k4 : Int32 → Int32 → zHp → Option (Int32 × zHp)} (hk4 : ∀ (a1 : Int32) (a2 : Int32) (h : zHp), k4 a1 a2 h = some q → J 4 [(0, .ref 67), (1, .int a1), (2, .int a2)] [] 117 zRF h) : ∀ (a2 : Int32) (b0 : Int32) (b1 : Int32) (h : zHp), s_X10_others_L80 k4 a2 b0 b1 h = some q → J 80 [(0, .ref 67), (2, .int a2)] [.int b1, .int b0] 117 zRF h := by
  intro a2 b0 b1 h e
  unfold s_X10_others_L80 at e
  refine zv_iadd X dX10_others_80 ?_
  refine zb e (fun v1 gv1 e => ?_)
  refine zv_nmI X gv1 ?_
  refine zv_istore_n (i := 1) (lv' := [(1, .int v1), (0, .ref 67), (2, .int a2)]) X dX10_others_81 rfl (Nat.le_of_ble_eq_true rfl) rfl ?_
  exact zv_pick X [1, 0, 2] rfl (k_X10_others_L82 q hd X hk4 _ _ _ e)
set_option maxRecDepth 100000 in
set_option maxHeartbeats 4000000 in
theorem k_X10_others_L4 {l : Launch} {D : va_G} {cy : Nat → ClassId} {S0 d : Nat} {J : zJ} (q : (Int32 × zHp)) (hd : 5 ≤ d) (X : zOK l D cy S0 d RX10 cX10_others 5 (yX10_others.name == "<init>") 117 117 (some .int) (zRT 117 zRF (some (.int q.1)) q.2) J) : ∀ (f : Nat) (a1 : Int32) (a2 : Int32) (h : zHp), s_X10_others_L4 f a1 a2 h = some q → J 4 [(0, .ref 67), (1, .int a1), (2, .int a2)] [] 117 zRF h := by
  intro f
  induction f with
  | zero => intro _ _ h e; exact absurd e (fun z => by cases z)
  | succ f ih =>
    intro a1 a2 h e
    rw [s_X10_others_L4] at e
    refine zv_iload_n X dX10_others_4 rfl rfl ?_
    refine zv_aload_n X dX10_others_5 rfl rfl ?_
    refine zv_getI X zf_RX10_165 zk_67 zb_67 dX10_others_6 ?_
    refine zv_icmp_ge (tgt := 88) X dX10_others_9 (by decide) (fun c1 => ?_) (fun c1 => ?_)
    · replace e := zit e c1
      refine zv_iload_n X dX10_others_88 rfl rfl ?_
      exact zv_retI X e rfl dX10_others_89
    · replace e := zif e c1
      refine zv_aload_n X dX10_others_12 rfl rfl ?_
      refine zv_iload_n X dX10_others_13 rfl rfl ?_
      refine zv_aload_n X dX10_others_14 rfl rfl ?_
      refine zv_getI X zf_RX10_179 zk_67 zb_67 dX10_others_15 ?_
      refine zv_aload_n X dX10_others_18 rfl rfl ?_
      refine zv_getI X zf_RX10_179 zk_67 zb_67 dX10_others_19 ?_
      refine zb e (fun q2 gq2 e => ?_)
      refine zv_callV (stk := [.int (h.1 67 0), .int (h.1 67 0), .int a2, .ref 67]) (as := [.int a2, .int (h.1 67 0), .int (h.1 67 0)]) (st := []) (k := 67) X zl_RX10_212 zm_X10_lookOn (k_X10_lookOn (d := d - 1) (by omega) gq2) (by omega) zb_67 (by rw [zk_67]; rfl) rfl rfl (Nat.le_of_ble_eq_true rfl) (Nat.le_refl _) rfl dX10_others_22 ?_
      show J 25 [(0, .ref 67), (1, .int a1), (2, .int a2)] [.int q2.1] 117 zRF q2.2
      refine zv_istore_n (i := 3) (lv' := [(3, .int q2.1), (0, .ref 67), (1, .int a1), (2, .int a2)]) X dX10_others_25 rfl (Nat.le_of_ble_eq_true rfl) rfl ?_
      refine zv_aload_n X dX10_others_26 rfl rfl ?_
      refine zv_iload_n X dX10_others_27 rfl rfl ?_
      refine zv_aload_n X dX10_others_28 rfl rfl ?_
      refine zv_getI X zf_RX10_179 zk_67 zb_67 dX10_others_29 ?_
      refine zv_aload_n X dX10_others_32 rfl rfl ?_
      refine zv_getI X zf_RX10_179 zk_67 zb_67 dX10_others_33 ?_
      refine zb e (fun q3 gq3 e => ?_)
      refine zv_callV (stk := [.int (q2.2.1 67 0), .int (q2.2.1 67 0), .int a2, .ref 67]) (as := [.int a2, .int (q2.2.1 67 0), .int (q2.2.1 67 0)]) (st := []) (k := 67) X zl_RX10_220 zm_X10_starOf (k_X10_starOf (d := d - 1) (by omega) gq3) (by omega) zb_67 (by rw [zk_67]; rfl) rfl rfl (Nat.le_of_ble_eq_true rfl) (Nat.le_refl _) rfl dX10_others_36 ?_
      show J 39 [(3, .int q2.1), (0, .ref 67), (1, .int a1), (2, .int a2)] [.int q3.1] 117 zRF q3.2
      refine zv_istore (i := 4) (lv' := [(4, .int q3.1), (3, .int q2.1), (0, .ref 67), (1, .int a1), (2, .int a2)]) X dX10_others_39 (Nat.le_of_ble_eq_true rfl) rfl ?_
      refine zv_iload X dX10_others_41 rfl ?_
      refine zv_if_le (tgt := 82) X dX10_others_43 (by decide) (fun c4 => ?_) (fun c4 => ?_)
      · replace e := zit e c4
        exact zv_pick X [2, 3, 4] rfl (k_X10_others_L82 q hd X ih _ _ _ e)
      · replace e := zif e c4
        refine zv_aload_n X dX10_others_46 rfl rfl ?_
        refine zv_iload_n X dX10_others_47 rfl rfl ?_
        refine zb e (fun q5 gq5 e => ?_)
        refine zv_callV (stk := [.int q2.1, .ref 67]) (as := [.int q2.1]) (st := []) (k := 67) X zl_RX10_292 zm_X10_findEvened (k_X10_findEvened (d := d - 1) (by omega) gq5) (by omega) zb_67 (by rw [zk_67]; rfl) rfl rfl (Nat.le_of_ble_eq_true rfl) (Nat.le_refl _) rfl dX10_others_48 ?_
        show J 51 [(4, .int q3.1), (3, .int q2.1), (0, .ref 67), (1, .int a1), (2, .int a2)] [] 117 zRF q5
        refine zv_iload_n X dX10_others_51 rfl rfl ?_
        refine zv_aload_n X dX10_others_52 rfl rfl ?_
        refine zv_aload_n X dX10_others_53 rfl rfl ?_
        refine zv_getL X zf_RX10_267 zk_67 zb_67 dX10_others_54 ?_
        refine zv_aload_n X dX10_others_57 rfl rfl ?_
        refine zv_getL X zf_RX10_271 zk_67 zb_67 dX10_others_58 ?_
        refine zv_aload_n X dX10_others_61 rfl rfl ?_
        refine zv_getR X zf_RX10_59 znt_a zk_67 zb_67 zr_67_20 dX10_others_62 ?_
        refine zv_iload_n X dX10_others_65 rfl rfl ?_
        refine zb e (fun v6 gv6 e => ?_)
        refine zv_iald X zk_84 zl_84 zb_84 dX10_others_66 gv6 ?_
        refine zb e (fun q7 gq7 e => ?_)
        refine zv_callV (stk := [.int v6, .long (q5.2 67 46), .long (q5.2 67 45), .ref 67, .int a1]) (as := [.long (q5.2 67 45), .long (q5.2 67 46), .int v6]) (st := [.int a1]) (k := 67) X zl_RX10_216 zm_X10_starBy (k_X10_starBy (d := d - 1) (by omega) gq7) (by omega) zb_67 (by rw [zk_67]; rfl) rfl rfl (Nat.le_of_ble_eq_true rfl) (Nat.le_refl _) rfl dX10_others_67 ?_
        show J 70 [(4, .int q3.1), (3, .int q2.1), (0, .ref 67), (1, .int a1), (2, .int a2)] [.int q7.1, .int a1] 117 zRF q7.2
        refine zv_iload X dX10_others_70 rfl ?_
        refine zv_icmp_ne (tgt := 79) X dX10_others_72 (by decide) (fun c8 => ?_) (fun c8 => ?_)
        · replace e := zif e c8
          refine zv_iconst (v := (1 : Int32)) X dX10_others_79 zic_1 ?_
          exact zv_pick X [2, 4] rfl (k_X10_others_L80 q hd X ih _ _ _ _ e)
        · replace e := zit e c8
          refine zv_iconst (v := (0 : Int32)) X dX10_others_75 zic_0 ?_
          refine zv_goto (tgt := 80) X dX10_others_76 (by decide) ?_
          exact zv_pick X [2, 4] rfl (k_X10_others_L80 q hd X ih _ _ _ _ e)
set_option maxRecDepth 100000 in
set_option maxHeartbeats 4000000 in
theorem k_X10_others {l : Launch} {D : va_G} {cy : Nat → ClassId} {S0 d : Nat} (hd : 5 ≤ d) {h : zHp} {q : (Int32 × zHp)} (e : s_X10_others  h = some q) : zCT l D cy S0 d yX10_others cX10_others 5 (some .int) [.ref 67] 117 zRF h (some (.int q.1)) 117 zRF q.2 := by
  unfold s_X10_others at e
  refine zCT_of RX10 rfl zm_X10_others (Nat.le_refl _) (Nat.le_of_ble_eq_true rfl) (fun J X => ?_)
  show J 0 [(0, .ref 67)] [] 117 zRF h
  refine zv_iconst (v := (0 : Int32)) X dX10_others_0 zic_0 ?_
  refine zv_istore_n (i := 1) (lv' := [(1, .int (0 : Int32)), (0, .ref 67)]) X dX10_others_1 rfl (Nat.le_of_ble_eq_true rfl) rfl ?_
  refine zv_iconst (v := (0 : Int32)) X dX10_others_2 zic_0 ?_
  refine zv_istore_n (i := 2) (lv' := [(2, .int (0 : Int32)), (1, .int (0 : Int32)), (0, .ref 67)]) X dX10_others_3 rfl (Nat.le_of_ble_eq_true rfl) rfl ?_
  exact zv_pick X [2, 1, 0] rfl (k_X10_others_L4 q hd X _ _ _ _ e)
-- J9_floorMod_7cf53
def s_J9_floorMod_7cf53_L18 (a2 : Int32) (h : zHp) : Option (Int32 × zHp) :=
  some (a2, h)
def s_J9_floorMod_7cf53 (a0 : Int32) (a1 : Int32) (h : zHp) : Option (Int32 × zHp) :=
  (zrem a0 a1).bind fun v1 =>
  if 0 ≤ (a0 ^^^ a1) then
    s_J9_floorMod_7cf53_L18 v1 h
  else
    if v1 = 0 then
      s_J9_floorMod_7cf53_L18 v1 h
    else
      some (v1 + a1, h)
set_option maxRecDepth 100000 in
set_option maxHeartbeats 4000000 in
theorem k_J9_floorMod_7cf53_L18 {l : Launch} {D : va_G} {cy : Nat → ClassId} {S0 d : Nat} {J : zJ} (q : (Int32 × zHp)) (hd : 0 ≤ d) (X : zOK l D cy S0 d RJ9 cJ9_floorMod_7cf53 3 (yJ9_floorMod_7cf53.name == "<init>") 117 117 (some .int) (zRT 117 zRF (some (.int q.1)) q.2) J) : ∀ (a2 : Int32) (h : zHp), s_J9_floorMod_7cf53_L18 a2 h = some q → J 18 [(2, .int a2)] [] 117 zRF h := by
  intro a2 h e
  unfold s_J9_floorMod_7cf53_L18 at e
  refine zv_iload_n X dJ9_floorMod_7cf53_18 rfl rfl ?_
  exact zv_retI X e rfl dJ9_floorMod_7cf53_19
set_option maxRecDepth 100000 in
set_option maxHeartbeats 4000000 in
theorem k_J9_floorMod_7cf53 {l : Launch} {D : va_G} {cy : Nat → ClassId} {S0 d : Nat} (hd : 0 ≤ d) {a0 : Int32} {a1 : Int32} {h : zHp} {q : (Int32 × zHp)} (e : s_J9_floorMod_7cf53 a0 a1 h = some q) : zCT l D cy S0 d yJ9_floorMod_7cf53 cJ9_floorMod_7cf53 3 (some .int) [.int a0, .int a1] 117 zRF h (some (.int q.1)) 117 zRF q.2 := by
  unfold s_J9_floorMod_7cf53 at e
  refine zCT_of RJ9 rfl zm_J9_floorMod_7cf53 (Nat.le_refl _) (Nat.le_of_ble_eq_true rfl) (fun J X => ?_)
  show J 0 [(0, .int a0), (1, .int a1)] [] 117 zRF h
  refine zv_iload_n X dJ9_floorMod_7cf53_0 rfl rfl ?_
  refine zv_iload_n X dJ9_floorMod_7cf53_1 rfl rfl ?_
  refine zb e (fun v1 gv1 e => ?_)
  refine zv_irem X dJ9_floorMod_7cf53_2 gv1 ?_
  refine zv_istore_n (i := 2) (lv' := [(2, .int v1), (0, .int a0), (1, .int a1)]) X dJ9_floorMod_7cf53_3 rfl (Nat.le_of_ble_eq_true rfl) rfl ?_
  refine zv_iload_n X dJ9_floorMod_7cf53_4 rfl rfl ?_
  refine zv_iload_n X dJ9_floorMod_7cf53_5 rfl rfl ?_
  refine zv_ixor X dJ9_floorMod_7cf53_6 ?_
  refine zv_if_ge (tgt := 18) X dJ9_floorMod_7cf53_7 (by decide) (fun c2 => ?_) (fun c2 => ?_)
  · replace e := zit e c2
    exact zv_pick X [0] rfl (k_J9_floorMod_7cf53_L18 q hd X _ _ e)
  · replace e := zif e c2
    refine zv_iload_n X dJ9_floorMod_7cf53_10 rfl rfl ?_
    refine zv_if_eq (tgt := 18) X dJ9_floorMod_7cf53_11 (by decide) (fun c3 => ?_) (fun c3 => ?_)
    · replace e := zit e c3
      exact zv_pick X [0] rfl (k_J9_floorMod_7cf53_L18 q hd X _ _ e)
    · replace e := zif e c3
      refine zv_iload_n X dJ9_floorMod_7cf53_14 rfl rfl ?_
      refine zv_iload_n X dJ9_floorMod_7cf53_15 rfl rfl ?_
      refine zv_iadd X dJ9_floorMod_7cf53_16 ?_
      exact zv_retI X e rfl dJ9_floorMod_7cf53_17
-- X9_dealSeats
def s_X9_dealSeats_L36 : Nat → Int32 → Int32 → zHp → Option zHp
  | 0, _, _, _ => none
  | f + 1, a3, a4, h =>
  if a4 < (1 : Int32) then
    some h
  else
    (zrem ((a3 * (37 : Int32)) + (101 : Int32)) (10007 : Int32)).bind fun v2 =>
    (s_J9_floorMod_7cf53 v2 (a4 + (1 : Int32)) h).bind fun q3 =>
    (zri q3.2 5 5 a4).bind fun v4 =>
    (zri q3.2 5 5 q3.1).bind fun v5 =>
    (zui q3.2 5 5 a4 v5).bind fun h6 =>
    (zui h6 5 5 q3.1 v4).bind fun h7 =>
    s_X9_dealSeats_L36 f v2 (a4 + (-1 : Int32)) h7
def s_X9_dealSeats_L25 (a1 : Int32) (a2 : Int32) (h : zHp) : Option zHp :=
  (s_J9_min_7cf53 a2 (5 : Int32) h).bind fun q1 =>
  (some (q1.1 - (1 : Int32))).bind fun v2 =>
  s_X9_dealSeats_L36 zFU a1 v2 q1.2
def s_X9_dealSeats_L2 : Nat → Int32 → Int32 → Int32 → zHp → Option zHp
  | 0, _, _, _, _ => none
  | f + 1, a1, a2, a3, h =>
  if a2 ≤ a3 then
    s_X9_dealSeats_L25 a1 a2 h
  else
    if (5 : Int32) ≤ a3 then
      s_X9_dealSeats_L25 a1 a2 h
    else
      (zui h 5 5 a3 a3).bind fun h3 =>
      s_X9_dealSeats_L2 f a1 a2 (a3 + (1 : Int32)) h3
def s_X9_dealSeats (a1 : Int32) (a2 : Int32) (h : zHp) : Option zHp :=
  s_X9_dealSeats_L2 zFU a1 a2 (0 : Int32) h
set_option maxRecDepth 100000 in
set_option maxHeartbeats 4000000 in
theorem k_X9_dealSeats_L36 {l : Launch} {D : va_G} {cy : Nat → ClassId} {S0 d : Nat} {J : zJ} (q : zHp) (hd : 1 ≤ d) (X : zOK l D cy S0 d RX9 cX9_dealSeats 7 (yX9_dealSeats.name == "<init>") 117 117 none (zRT 117 zRF none q) J) : ∀ (f : Nat) (a3 : Int32) (a4 : Int32) (h : zHp), s_X9_dealSeats_L36 f a3 a4 h = some q → J 36 [(0, .ref 0), (3, .int a3), (4, .int a4)] [] 117 zRF h := by
  intro f
  induction f with
  | zero => intro _ _ h e; exact absurd e (fun z => by cases z)
  | succ f ih =>
    intro a3 a4 h e
    rw [s_X9_dealSeats_L36] at e
    refine zv_iload X dX9_dealSeats_36 rfl ?_
    refine zv_iconst (v := (1 : Int32)) X dX9_dealSeats_38 zic_1 ?_
    refine zv_icmp_lt (tgt := 102) X dX9_dealSeats_39 (by decide) (fun c1 => ?_) (fun c1 => ?_)
    · replace e := zit e c1
      exact zv_retV X e rfl dX9_dealSeats_102
    · replace e := zif e c1
      refine zv_iload_n X dX9_dealSeats_42 rfl rfl ?_
      refine zv_bipush (v := (37 : Int32)) X dX9_dealSeats_43 zbp_37 ?_
      refine zv_imul X dX9_dealSeats_45 ?_
      refine zv_bipush (v := (101 : Int32)) X dX9_dealSeats_46 zbp_101 ?_
      refine zv_iadd X dX9_dealSeats_48 ?_
      refine zv_sipush (v := (10007 : Int32)) X dX9_dealSeats_49 zsp_10007 ?_
      refine zb e (fun v2 gv2 e => ?_)
      refine zv_irem X dX9_dealSeats_52 gv2 ?_
      refine zv_istore_n (i := 3) (lv' := [(3, .int v2), (0, .ref 0), (4, .int a4)]) X dX9_dealSeats_53 rfl (Nat.le_of_ble_eq_true rfl) rfl ?_
      refine zv_iload_n X dX9_dealSeats_54 rfl rfl ?_
      refine zv_iload X dX9_dealSeats_55 rfl ?_
      refine zv_iconst (v := (1 : Int32)) X dX9_dealSeats_57 zic_1 ?_
      refine zv_iadd X dX9_dealSeats_58 ?_
      refine zb e (fun q3 gq3 e => ?_)
      refine zv_callS (stk := [.int (a4 + (1 : Int32)), .int v2]) (as := [.int v2, .int (a4 + (1 : Int32))]) (st := []) X zl_RX9_350 zm_J9_floorMod_7cf53 (k_J9_floorMod_7cf53 (d := d - 1) (by omega) gq3) (by omega) rfl (Nat.le_of_ble_eq_true rfl) (Nat.le_refl _) rfl dX9_dealSeats_59 ?_
      show J 62 [(3, .int v2), (0, .ref 0), (4, .int a4)] [.int q3.1] 117 zRF q3.2
      refine zv_istore (i := 5) (lv' := [(5, .int q3.1), (3, .int v2), (0, .ref 0), (4, .int a4)]) X dX9_dealSeats_62 (Nat.le_of_ble_eq_true rfl) rfl ?_
      refine zv_aload_n X dX9_dealSeats_64 rfl rfl ?_
      refine zv_getR X zf_RX9_23 znt_a zk_0 zb_0 zr_0_4 dX9_dealSeats_65 ?_
      refine zv_iload X dX9_dealSeats_68 rfl ?_
      refine zb e (fun v4 gv4 e => ?_)
      refine zv_iald X zk_5 zl_5 zb_5 dX9_dealSeats_70 gv4 ?_
      refine zv_istore (i := 6) (lv' := [(6, .int v4), (5, .int q3.1), (3, .int v2), (0, .ref 0), (4, .int a4)]) X dX9_dealSeats_71 (Nat.le_of_ble_eq_true rfl) rfl ?_
      refine zv_aload_n X dX9_dealSeats_73 rfl rfl ?_
      refine zv_getR X zf_RX9_23 znt_a zk_0 zb_0 zr_0_4 dX9_dealSeats_74 ?_
      refine zv_iload X dX9_dealSeats_77 rfl ?_
      refine zv_aload_n X dX9_dealSeats_79 rfl rfl ?_
      refine zv_getR X zf_RX9_23 znt_a zk_0 zb_0 zr_0_4 dX9_dealSeats_80 ?_
      refine zv_iload X dX9_dealSeats_83 rfl ?_
      refine zb e (fun v5 gv5 e => ?_)
      refine zv_iald X zk_5 zl_5 zb_5 dX9_dealSeats_85 gv5 ?_
      refine zb e (fun h6 gh6 e => ?_)
      refine zv_iast X zk_5 zl_5 zb_5 dX9_dealSeats_86 gh6 ?_
      refine zv_aload_n X dX9_dealSeats_87 rfl rfl ?_
      refine zv_getR X zf_RX9_23 znt_a zk_0 zb_0 zr_0_4 dX9_dealSeats_88 ?_
      refine zv_iload X dX9_dealSeats_91 rfl ?_
      refine zv_iload X dX9_dealSeats_93 rfl ?_
      refine zb e (fun h7 gh7 e => ?_)
      refine zv_iast X zk_5 zl_5 zb_5 dX9_dealSeats_95 gh7 ?_
      refine zv_iinc (k := 4) (v := a4 + (-1 : Int32)) (lv' := [(4, .int (a4 + (-1 : Int32))), (6, .int v4), (5, .int q3.1), (3, .int v2), (0, .ref 0)]) X dX9_dealSeats_96 rfl rfl (Nat.le_of_ble_eq_true rfl) rfl ?_
      refine zv_goto (tgt := 36) X dX9_dealSeats_99 (by decide) ?_
      exact zv_pick X [4, 3, 0] rfl (ih _ _ _ e)
set_option maxRecDepth 100000 in
set_option maxHeartbeats 4000000 in
theorem k_X9_dealSeats_L25 {l : Launch} {D : va_G} {cy : Nat → ClassId} {S0 d : Nat} {J : zJ} (q : zHp) (hd : 1 ≤ d) (X : zOK l D cy S0 d RX9 cX9_dealSeats 7 (yX9_dealSeats.name == "<init>") 117 117 none (zRT 117 zRF none q) J) : ∀ (a1 : Int32) (a2 : Int32) (h : zHp), s_X9_dealSeats_L25 a1 a2 h = some q → J 25 [(0, .ref 0), (1, .int a1), (2, .int a2)] [] 117 zRF h := by
  intro a1 a2 h e
  unfold s_X9_dealSeats_L25 at e
  refine zv_iload_n X dX9_dealSeats_25 rfl rfl ?_
  refine zv_istore_n (i := 3) (lv' := [(3, .int a1), (0, .ref 0), (1, .int a1), (2, .int a2)]) X dX9_dealSeats_26 rfl (Nat.le_of_ble_eq_true rfl) rfl ?_
  refine zv_iload_n X dX9_dealSeats_27 rfl rfl ?_
  refine zv_iconst (v := (5 : Int32)) X dX9_dealSeats_28 zic_5 ?_
  refine zb e (fun q1 gq1 e => ?_)
  refine zv_callS (stk := [.int (5 : Int32), .int a2]) (as := [.int a2, .int (5 : Int32)]) (st := []) X zl_RX9_347 zm_J9_min_7cf53 (k_J9_min_7cf53 (d := d - 1) (by omega) gq1) (by omega) rfl (Nat.le_of_ble_eq_true rfl) (Nat.le_refl _) rfl dX9_dealSeats_29 ?_
  show J 32 [(3, .int a1), (0, .ref 0), (1, .int a1), (2, .int a2)] [.int q1.1] 117 zRF q1.2
  refine zv_iconst (v := (1 : Int32)) X dX9_dealSeats_32 zic_1 ?_
  refine zv_isub X dX9_dealSeats_33 ?_
  refine zb e (fun v2 gv2 e => ?_)
  refine zv_nmI X gv2 ?_
  refine zv_istore (i := 4) (lv' := [(4, .int v2), (3, .int a1), (0, .ref 0), (1, .int a1), (2, .int a2)]) X dX9_dealSeats_34 (Nat.le_of_ble_eq_true rfl) rfl ?_
  exact zv_pick X [2, 1, 0] rfl (k_X9_dealSeats_L36 q hd X _ _ _ _ e)
set_option maxRecDepth 100000 in
set_option maxHeartbeats 4000000 in
theorem k_X9_dealSeats_L2 {l : Launch} {D : va_G} {cy : Nat → ClassId} {S0 d : Nat} {J : zJ} (q : zHp) (hd : 1 ≤ d) (X : zOK l D cy S0 d RX9 cX9_dealSeats 7 (yX9_dealSeats.name == "<init>") 117 117 none (zRT 117 zRF none q) J) : ∀ (f : Nat) (a1 : Int32) (a2 : Int32) (a3 : Int32) (h : zHp), s_X9_dealSeats_L2 f a1 a2 a3 h = some q → J 2 [(0, .ref 0), (1, .int a1), (2, .int a2), (3, .int a3)] [] 117 zRF h := by
  intro f
  induction f with
  | zero => intro _ _ _ h e; exact absurd e (fun z => by cases z)
  | succ f ih =>
    intro a1 a2 a3 h e
    rw [s_X9_dealSeats_L2] at e
    refine zv_iload_n X dX9_dealSeats_2 rfl rfl ?_
    refine zv_iload_n X dX9_dealSeats_3 rfl rfl ?_
    refine zv_icmp_ge (tgt := 25) X dX9_dealSeats_4 (by decide) (fun c1 => ?_) (fun c1 => ?_)
    · replace e := zit e c1
      exact zv_pick X [0, 1, 2] rfl (k_X9_dealSeats_L25 q hd X _ _ _ e)
    · replace e := zif e c1
      refine zv_iload_n X dX9_dealSeats_7 rfl rfl ?_
      refine zv_iconst (v := (5 : Int32)) X dX9_dealSeats_8 zic_5 ?_
      refine zv_icmp_ge (tgt := 25) X dX9_dealSeats_9 (by decide) (fun c2 => ?_) (fun c2 => ?_)
      · replace e := zit e c2
        exact zv_pick X [0, 1, 2] rfl (k_X9_dealSeats_L25 q hd X _ _ _ e)
      · replace e := zif e c2
        refine zv_aload_n X dX9_dealSeats_12 rfl rfl ?_
        refine zv_getR X zf_RX9_23 znt_a zk_0 zb_0 zr_0_4 dX9_dealSeats_13 ?_
        refine zv_iload_n X dX9_dealSeats_16 rfl rfl ?_
        refine zv_iload_n X dX9_dealSeats_17 rfl rfl ?_
        refine zb e (fun h3 gh3 e => ?_)
        refine zv_iast X zk_5 zl_5 zb_5 dX9_dealSeats_18 gh3 ?_
        refine zv_iinc (k := 3) (v := a3 + (1 : Int32)) (lv' := [(3, .int (a3 + (1 : Int32))), (0, .ref 0), (1, .int a1), (2, .int a2)]) X dX9_dealSeats_19 rfl rfl (Nat.le_of_ble_eq_true rfl) rfl ?_
        refine zv_goto (tgt := 2) X dX9_dealSeats_22 (by decide) ?_
        exact zv_pick X [1, 2, 3, 0] rfl (ih _ _ _ _ e)
set_option maxRecDepth 100000 in
set_option maxHeartbeats 4000000 in
theorem k_X9_dealSeats {l : Launch} {D : va_G} {cy : Nat → ClassId} {S0 d : Nat} (hd : 1 ≤ d) {a1 : Int32} {a2 : Int32} {h : zHp} {q : zHp} (e : s_X9_dealSeats a1 a2 h = some q) : zCT l D cy S0 d yX9_dealSeats cX9_dealSeats 7 none [.ref 0, .int a1, .int a2] 117 zRF h none 117 zRF q := by
  unfold s_X9_dealSeats at e
  refine zCT_of RX9 rfl zm_X9_dealSeats (Nat.le_refl _) (Nat.le_of_ble_eq_true rfl) (fun J X => ?_)
  show J 0 [(0, .ref 0), (1, .int a1), (2, .int a2)] [] 117 zRF h
  refine zv_iconst (v := (0 : Int32)) X dX9_dealSeats_0 zic_0 ?_
  refine zv_istore_n (i := 3) (lv' := [(3, .int (0 : Int32)), (0, .ref 0), (1, .int a1), (2, .int a2)]) X dX9_dealSeats_1 rfl (Nat.le_of_ble_eq_true rfl) rfl ?_
  exact zv_pick X [1, 2, 3, 0] rfl (k_X9_dealSeats_L2 q hd X _ _ _ _ _ e)
-- X9_swap
def s_X9_swap_L9  (h : zHp) : Option (Int32 × zHp) :=
  (s_X9_refused (-4 : Int32) h).bind fun q1 =>
  some (q1.1, q1.2)
def s_X9_swap_L28  (h : zHp) : Option (Int32 × zHp) :=
  (s_X9_refused (-6 : Int32) h).bind fun q1 =>
  some (q1.1, q1.2)
def s_X9_swap (a1 : Int32) (a2 : Int32) (a3 : Int32) (h : zHp) : Option (Int32 × zHp) :=
  if a1 < 0 then
    s_X9_swap_L9 h
  else
    if (2 : Int32) ≤ a2 then
      if (9999 : Int32) < a1 then
        s_X9_swap_L28 h
      else
        if a2 ≤ (5 : Int32) then
          (s_X9_isWithin a3 a2 h).bind fun q5 =>
          if q5.1 = 0 then
            (s_X9_refused (-1 : Int32) q5.2).bind fun q9 =>
            some (q9.1, q9.2)
          else
            (s_X9_dealSeats a1 a2 q5.2).bind fun q7 =>
            (zri q7 5 5 a3).bind fun v8 =>
            some (v8, q7)
        else
          s_X9_swap_L28 h
    else
      s_X9_swap_L9 h
set_option maxRecDepth 100000 in
set_option maxHeartbeats 4000000 in
theorem k_X9_swap_L9 {l : Launch} {D : va_G} {cy : Nat → ClassId} {S0 d : Nat} {J : zJ} (q : (Int32 × zHp)) (hd : 2 ≤ d) (X : zOK l D cy S0 d RX9 cX9_swap 4 (yX9_swap.name == "<init>") 117 117 (some .int) (zRT 117 zRF (some (.int q.1)) q.2) J) : ∀  (h : zHp), s_X9_swap_L9  h = some q → J 9 [(0, .ref 0)] [] 117 zRF h := by
  intro  h e
  unfold s_X9_swap_L9 at e
  refine zv_aload_n X dX9_swap_9 rfl rfl ?_
  refine zv_bipush (v := (-4 : Int32)) X dX9_swap_10 zbp_m4 ?_
  refine zb e (fun q1 gq1 e => ?_)
  refine zv_callV (stk := [.int (-4 : Int32), .ref 0]) (as := [.int (-4 : Int32)]) (st := []) (k := 0) X zl_RX9_108 zm_X9_refused (k_X9_refused (d := d - 1) (by omega) gq1) (by omega) zb_0 (by rw [zk_0]; rfl) rfl rfl (Nat.le_of_ble_eq_true rfl) (Nat.le_refl _) rfl dX9_swap_12 ?_
  show J 15 [(0, .ref 0)] [.int q1.1] 117 zRF q1.2
  exact zv_retI X e rfl dX9_swap_15
set_option maxRecDepth 100000 in
set_option maxHeartbeats 4000000 in
theorem k_X9_swap_L28 {l : Launch} {D : va_G} {cy : Nat → ClassId} {S0 d : Nat} {J : zJ} (q : (Int32 × zHp)) (hd : 2 ≤ d) (X : zOK l D cy S0 d RX9 cX9_swap 4 (yX9_swap.name == "<init>") 117 117 (some .int) (zRT 117 zRF (some (.int q.1)) q.2) J) : ∀  (h : zHp), s_X9_swap_L28  h = some q → J 28 [(0, .ref 0)] [] 117 zRF h := by
  intro  h e
  unfold s_X9_swap_L28 at e
  refine zv_aload_n X dX9_swap_28 rfl rfl ?_
  refine zv_bipush (v := (-6 : Int32)) X dX9_swap_29 zbp_m6 ?_
  refine zb e (fun q1 gq1 e => ?_)
  refine zv_callV (stk := [.int (-6 : Int32), .ref 0]) (as := [.int (-6 : Int32)]) (st := []) (k := 0) X zl_RX9_108 zm_X9_refused (k_X9_refused (d := d - 1) (by omega) gq1) (by omega) zb_0 (by rw [zk_0]; rfl) rfl rfl (Nat.le_of_ble_eq_true rfl) (Nat.le_refl _) rfl dX9_swap_31 ?_
  show J 34 [(0, .ref 0)] [.int q1.1] 117 zRF q1.2
  exact zv_retI X e rfl dX9_swap_34
set_option maxRecDepth 100000 in
set_option maxHeartbeats 4000000 in
theorem k_X9_swap {l : Launch} {D : va_G} {cy : Nat → ClassId} {S0 d : Nat} (hd : 2 ≤ d) {a1 : Int32} {a2 : Int32} {a3 : Int32} {h : zHp} {q : (Int32 × zHp)} (e : s_X9_swap a1 a2 a3 h = some q) : zCT l D cy S0 d yX9_swap cX9_swap 4 (some .int) [.ref 0, .int a1, .int a2, .int a3] 117 zRF h (some (.int q.1)) 117 zRF q.2 := by
  unfold s_X9_swap at e
  refine zCT_of RX9 rfl zm_X9_swap (Nat.le_refl _) (Nat.le_of_ble_eq_true rfl) (fun J X => ?_)
  show J 0 [(0, .ref 0), (1, .int a1), (2, .int a2), (3, .int a3)] [] 117 zRF h
  refine zv_iload_n X dX9_swap_0 rfl rfl ?_
  refine zv_if_lt (tgt := 9) X dX9_swap_1 (by decide) (fun c1 => ?_) (fun c1 => ?_)
  · replace e := zit e c1
    exact zv_pick X [0] rfl (k_X9_swap_L9 q hd X  _ e)
  · replace e := zif e c1
    refine zv_iload_n X dX9_swap_4 rfl rfl ?_
    refine zv_iconst (v := (2 : Int32)) X dX9_swap_5 zic_2 ?_
    refine zv_icmp_ge (tgt := 16) X dX9_swap_6 (by decide) (fun c2 => ?_) (fun c2 => ?_)
    · replace e := zit e c2
      refine zv_iload_n X dX9_swap_16 rfl rfl ?_
      refine zv_sipush (v := (9999 : Int32)) X dX9_swap_17 zsp_9999 ?_
      refine zv_icmp_gt (tgt := 28) X dX9_swap_20 (by decide) (fun c3 => ?_) (fun c3 => ?_)
      · replace e := zit e c3
        exact zv_pick X [0] rfl (k_X9_swap_L28 q hd X  _ e)
      · replace e := zif e c3
        refine zv_iload_n X dX9_swap_23 rfl rfl ?_
        refine zv_iconst (v := (5 : Int32)) X dX9_swap_24 zic_5 ?_
        refine zv_icmp_le (tgt := 35) X dX9_swap_25 (by decide) (fun c4 => ?_) (fun c4 => ?_)
        · replace e := zit e c4
          refine zv_iload_n X dX9_swap_35 rfl rfl ?_
          refine zv_iload_n X dX9_swap_36 rfl rfl ?_
          refine zb e (fun q5 gq5 e => ?_)
          refine zv_callS (stk := [.int a2, .int a3]) (as := [.int a3, .int a2]) (st := []) X zl_RX9_112 zm_X9_isWithin (k_X9_isWithin (d := d - 1) (by omega) gq5) (by omega) rfl (Nat.le_of_ble_eq_true rfl) (Nat.le_refl _) rfl dX9_swap_37 ?_
          show J 40 [(0, .ref 0), (1, .int a1), (2, .int a2), (3, .int a3)] [.int q5.1] 117 zRF q5.2
          refine zv_if_ne (tgt := 49) X dX9_swap_40 (by decide) (fun c6 => ?_) (fun c6 => ?_)
          · replace e := zif e c6
            refine zv_aload_n X dX9_swap_49 rfl rfl ?_
            refine zv_iload_n X dX9_swap_50 rfl rfl ?_
            refine zv_iload_n X dX9_swap_51 rfl rfl ?_
            refine zb e (fun q7 gq7 e => ?_)
            refine zv_callV (stk := [.int a2, .int a1, .ref 0]) (as := [.int a1, .int a2]) (st := []) (k := 0) X zl_RX9_251 zm_X9_dealSeats (k_X9_dealSeats (d := d - 1) (by omega) gq7) (by omega) zb_0 (by rw [zk_0]; rfl) rfl rfl (Nat.le_of_ble_eq_true rfl) (Nat.le_refl _) rfl dX9_swap_52 ?_
            show J 55 [(0, .ref 0), (1, .int a1), (2, .int a2), (3, .int a3)] [] 117 zRF q7
            refine zv_aload_n X dX9_swap_55 rfl rfl ?_
            refine zv_getR X zf_RX9_23 znt_a zk_0 zb_0 zr_0_4 dX9_swap_56 ?_
            refine zv_iload_n X dX9_swap_59 rfl rfl ?_
            refine zb e (fun v8 gv8 e => ?_)
            refine zv_iald X zk_5 zl_5 zb_5 dX9_swap_60 gv8 ?_
            exact zv_retI X e rfl dX9_swap_61
          · replace e := zit e c6
            refine zv_aload_n X dX9_swap_43 rfl rfl ?_
            refine zv_iconst (v := (-1 : Int32)) X dX9_swap_44 zic_m1 ?_
            refine zb e (fun q9 gq9 e => ?_)
            refine zv_callV (stk := [.int (-1 : Int32), .ref 0]) (as := [.int (-1 : Int32)]) (st := []) (k := 0) X zl_RX9_108 zm_X9_refused (k_X9_refused (d := d - 1) (by omega) gq9) (by omega) zb_0 (by rw [zk_0]; rfl) rfl rfl (Nat.le_of_ble_eq_true rfl) (Nat.le_refl _) rfl dX9_swap_45 ?_
            show J 48 [(0, .ref 0), (1, .int a1), (2, .int a2), (3, .int a3)] [.int q9.1] 117 zRF q9.2
            exact zv_retI X e rfl dX9_swap_48
        · replace e := zif e c4
          exact zv_pick X [0] rfl (k_X9_swap_L28 q hd X  _ e)
    · replace e := zif e c2
      exact zv_pick X [0] rfl (k_X9_swap_L9 q hd X  _ e)

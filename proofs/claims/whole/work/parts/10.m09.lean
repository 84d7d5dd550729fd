-- X10_rounds
def s_X10_rounds_L23 (b0 : Int32) (h : zHp) : Option (Int32 × zHp) :=
  some (b0, h)
def s_X10_rounds (a1 : Int32) (h : zHp) : Option (Int32 × zHp) :=
  (s_X10_wrongRounds a1 h).bind fun q1 =>
  if 0 ≤ q1.1 then
    (s_X10_findRounds a1 q1.2).bind fun q3 =>
    s_X10_rounds_L23 q3.1 q3.2
  else
    (s_X10_refuse q1.1 q1.2).bind fun q4 =>
    s_X10_rounds_L23 q4.1 q4.2
set_option maxRecDepth 100000 in
set_option maxHeartbeats 4000000 in
theorem k_X10_rounds_L23 {l : Launch} {D : va_G} {cy : Nat → ClassId} {S0 d : Nat} {J : zJ} (q : (Int32 × zHp)) (hd : 8 ≤ d) (X : zOK l D cy S0 d RX10 cX10_rounds 3 (yX10_rounds.name == "<init>") 117 117 (some .int) (zRT 117 zRF (some (.int q.1)) q.2) J) : ∀ (b0 : Int32) (h : zHp), s_X10_rounds_L23 b0 h = some q → J 23 [] [.int b0] 117 zRF h := by
  intro b0 h e
  unfold s_X10_rounds_L23 at e
  exact zv_retI X e rfl dX10_rounds_23
set_option maxRecDepth 100000 in
set_option maxHeartbeats 4000000 in
theorem k_X10_rounds {l : Launch} {D : va_G} {cy : Nat → ClassId} {S0 d : Nat} (hd : 8 ≤ d) {a1 : Int32} {h : zHp} {q : (Int32 × zHp)} (e : s_X10_rounds a1 h = some q) : zCT l D cy S0 d yX10_rounds cX10_rounds 3 (some .int) [.ref 67, .int a1] 117 zRF h (some (.int q.1)) 117 zRF q.2 := by
  unfold s_X10_rounds at e
  refine zCT_of RX10 rfl zm_X10_rounds (Nat.le_refl _) (Nat.le_of_ble_eq_true rfl) (fun J X => ?_)
  show J 0 [(0, .ref 67), (1, .int a1)] [] 117 zRF h
  refine zv_aload_n X dX10_rounds_0 rfl rfl ?_
  refine zv_iload_n X dX10_rounds_1 rfl rfl ?_
  refine zb e (fun q1 gq1 e => ?_)
  refine zv_callV (stk := [.int a1, .ref 67]) (as := [.int a1]) (st := []) (k := 67) X zl_RX10_248 zm_X10_wrongRounds (k_X10_wrongRounds (d := d - 1) (by omega) gq1) (by omega) zb_67 (by rw [zk_67]; rfl) rfl rfl (Nat.le_of_ble_eq_true rfl) (Nat.le_refl _) rfl dX10_rounds_2 ?_
  show J 5 [(0, .ref 67), (1, .int a1)] [.int q1.1] 117 zRF q1.2
  refine zv_istore_n (i := 2) (lv' := [(2, .int q1.1), (0, .ref 67), (1, .int a1)]) X dX10_rounds_5 rfl (Nat.le_of_ble_eq_true rfl) rfl ?_
  refine zv_iload_n X dX10_rounds_6 rfl rfl ?_
  refine zv_if_ge (tgt := 18) X dX10_rounds_7 (by decide) (fun c2 => ?_) (fun c2 => ?_)
  · replace e := zit e c2
    refine zv_aload_n X dX10_rounds_18 rfl rfl ?_
    refine zv_iload_n X dX10_rounds_19 rfl rfl ?_
    refine zb e (fun q3 gq3 e => ?_)
    refine zv_callV (stk := [.int a1, .ref 67]) (as := [.int a1]) (st := []) (k := 67) X zl_RX10_251 zm_X10_findRounds (k_X10_findRounds (d := d - 1) (by omega) gq3) (by omega) zb_67 (by rw [zk_67]; rfl) rfl rfl (Nat.le_of_ble_eq_true rfl) (Nat.le_refl _) rfl dX10_rounds_20 ?_
    show J 23 [(2, .int q1.1), (0, .ref 67), (1, .int a1)] [.int q3.1] 117 zRF q3.2
    exact zv_pick X [] rfl (k_X10_rounds_L23 q hd X _ _ e)
  · replace e := zif e c2
    refine zv_aload_n X dX10_rounds_10 rfl rfl ?_
    refine zv_iload_n X dX10_rounds_11 rfl rfl ?_
    refine zb e (fun q4 gq4 e => ?_)
    refine zv_callV (stk := [.int q1.1, .ref 67]) (as := [.int q1.1]) (st := []) (k := 67) X zl_RX10_175 zm_X10_refuse (k_X10_refuse (d := d - 1) (by omega) gq4) (by omega) zb_67 (by rw [zk_67]; rfl) rfl rfl (Nat.le_of_ble_eq_true rfl) (Nat.le_refl _) rfl dX10_rounds_12 ?_
    show J 15 [(2, .int q1.1), (0, .ref 67), (1, .int a1)] [.int q4.1] 117 zRF q4.2
    refine zv_goto (tgt := 23) X dX10_rounds_15 (by decide) ?_
    exact zv_pick X [] rfl (k_X10_rounds_L23 q hd X _ _ e)
-- X8_handsAt
def s_X8_handsAt_L2 : Nat → Int32 → Int32 → zHp → Option (Int32 × zHp)
  | 0, _, _, _ => none
  | f + 1, a1, a2, h =>
  if (h.1 35 10) ≤ a2 then
    some ((0 : Int32), h)
  else
    (zri h 36 6 a2).bind fun v2 =>
    if v2 = a1 then
      (zri h 41 6 a2).bind fun v4 =>
      some (v4, h)
    else
      s_X8_handsAt_L2 f a1 (a2 + (1 : Int32)) h
def s_X8_handsAt (a1 : Int32) (h : zHp) : Option (Int32 × zHp) :=
  s_X8_handsAt_L2 zFU a1 (0 : Int32) h
set_option maxRecDepth 100000 in
set_option maxHeartbeats 4000000 in
theorem k_X8_handsAt_L2 {l : Launch} {D : va_G} {cy : Nat → ClassId} {S0 d : Nat} {J : zJ} (q : (Int32 × zHp)) (hd : 0 ≤ d) (X : zOK l D cy S0 d RX8 cX8_handsAt 3 (yX8_handsAt.name == "<init>") 117 117 (some .int) (zRT 117 zRF (some (.int q.1)) q.2) J) : ∀ (f : Nat) (a1 : Int32) (a2 : Int32) (h : zHp), s_X8_handsAt_L2 f a1 a2 h = some q → J 2 [(0, .ref 35), (1, .int a1), (2, .int a2)] [] 117 zRF h := by
  intro f
  induction f with
  | zero => intro _ _ h e; exact absurd e (fun z => by cases z)
  | succ f ih =>
    intro a1 a2 h e
    rw [s_X8_handsAt_L2] at e
    refine zv_iload_n X dX8_handsAt_2 rfl rfl ?_
    refine zv_aload_n X dX8_handsAt_3 rfl rfl ?_
    refine zv_getI X zf_RX8_42 zk_35 zb_35 dX8_handsAt_4 ?_
    refine zv_icmp_ge (tgt := 33) X dX8_handsAt_7 (by decide) (fun c1 => ?_) (fun c1 => ?_)
    · replace e := zit e c1
      refine zv_iconst (v := (0 : Int32)) X dX8_handsAt_33 zic_0 ?_
      exact zv_retI X e rfl dX8_handsAt_34
    · replace e := zif e c1
      refine zv_aload_n X dX8_handsAt_10 rfl rfl ?_
      refine zv_getR X zf_RX8_9 znt_a zk_35 zb_35 zr_35_0 dX8_handsAt_11 ?_
      refine zv_iload_n X dX8_handsAt_14 rfl rfl ?_
      refine zb e (fun v2 gv2 e => ?_)
      refine zv_iald X zk_36 zl_36 zb_36 dX8_handsAt_15 gv2 ?_
      refine zv_iload_n X dX8_handsAt_16 rfl rfl ?_
      refine zv_icmp_ne (tgt := 27) X dX8_handsAt_17 (by decide) (fun c3 => ?_) (fun c3 => ?_)
      · replace e := zif e c3
        refine zv_iinc (k := 2) (v := a2 + (1 : Int32)) (lv' := [(2, .int (a2 + (1 : Int32))), (0, .ref 35), (1, .int a1)]) X dX8_handsAt_27 rfl rfl (Nat.le_of_ble_eq_true rfl) rfl ?_
        refine zv_goto (tgt := 2) X dX8_handsAt_30 (by decide) ?_
        exact zv_pick X [1, 2, 0] rfl (ih _ _ _ e)
      · replace e := zit e c3
        refine zv_aload_n X dX8_handsAt_20 rfl rfl ?_
        refine zv_getR X zf_RX8_27 znt_a zk_35 zb_35 zr_35_5 dX8_handsAt_21 ?_
        refine zv_iload_n X dX8_handsAt_24 rfl rfl ?_
        refine zb e (fun v4 gv4 e => ?_)
        refine zv_iald X zk_41 zl_41 zb_41 dX8_handsAt_25 gv4 ?_
        exact zv_retI X e rfl dX8_handsAt_26
set_option maxRecDepth 100000 in
set_option maxHeartbeats 4000000 in
theorem k_X8_handsAt {l : Launch} {D : va_G} {cy : Nat → ClassId} {S0 d : Nat} (hd : 0 ≤ d) {a1 : Int32} {h : zHp} {q : (Int32 × zHp)} (e : s_X8_handsAt a1 h = some q) : zCT l D cy S0 d yX8_handsAt cX8_handsAt 3 (some .int) [.ref 35, .int a1] 117 zRF h (some (.int q.1)) 117 zRF q.2 := by
  unfold s_X8_handsAt at e
  refine zCT_of RX8 rfl zm_X8_handsAt (Nat.le_refl _) (Nat.le_of_ble_eq_true rfl) (fun J X => ?_)
  show J 0 [(0, .ref 35), (1, .int a1)] [] 117 zRF h
  refine zv_iconst (v := (0 : Int32)) X dX8_handsAt_0 zic_0 ?_
  refine zv_istore_n (i := 2) (lv' := [(2, .int (0 : Int32)), (0, .ref 35), (1, .int a1)]) X dX8_handsAt_1 rfl (Nat.le_of_ble_eq_true rfl) rfl ?_
  exact zv_pick X [1, 2, 0] rfl (k_X8_handsAt_L2 q hd X _ _ _ _ e)
-- X8_dayAt
def s_X8_dayAt_L2 : Nat → Int32 → Int32 → zHp → Option (Int32 × zHp)
  | 0, _, _, _ => none
  | f + 1, a1, a2, h =>
  if (h.1 35 10) ≤ a2 then
    some ((5 : Int32), h)
  else
    (zri h 36 6 a2).bind fun v2 =>
    if v2 = a1 then
      (zri h 40 6 a2).bind fun v4 =>
      some (v4, h)
    else
      s_X8_dayAt_L2 f a1 (a2 + (1 : Int32)) h
def s_X8_dayAt (a1 : Int32) (h : zHp) : Option (Int32 × zHp) :=
  s_X8_dayAt_L2 zFU a1 (0 : Int32) h
set_option maxRecDepth 100000 in
set_option maxHeartbeats 4000000 in
theorem k_X8_dayAt_L2 {l : Launch} {D : va_G} {cy : Nat → ClassId} {S0 d : Nat} {J : zJ} (q : (Int32 × zHp)) (hd : 0 ≤ d) (X : zOK l D cy S0 d RX8 cX8_dayAt 3 (yX8_dayAt.name == "<init>") 117 117 (some .int) (zRT 117 zRF (some (.int q.1)) q.2) J) : ∀ (f : Nat) (a1 : Int32) (a2 : Int32) (h : zHp), s_X8_dayAt_L2 f a1 a2 h = some q → J 2 [(0, .ref 35), (1, .int a1), (2, .int a2)] [] 117 zRF h := by
  intro f
  induction f with
  | zero => intro _ _ h e; exact absurd e (fun z => by cases z)
  | succ f ih =>
    intro a1 a2 h e
    rw [s_X8_dayAt_L2] at e
    refine zv_iload_n X dX8_dayAt_2 rfl rfl ?_
    refine zv_aload_n X dX8_dayAt_3 rfl rfl ?_
    refine zv_getI X zf_RX8_42 zk_35 zb_35 dX8_dayAt_4 ?_
    refine zv_icmp_ge (tgt := 33) X dX8_dayAt_7 (by decide) (fun c1 => ?_) (fun c1 => ?_)
    · replace e := zit e c1
      refine zv_iconst (v := (5 : Int32)) X dX8_dayAt_33 zic_5 ?_
      exact zv_retI X e rfl dX8_dayAt_34
    · replace e := zif e c1
      refine zv_aload_n X dX8_dayAt_10 rfl rfl ?_
      refine zv_getR X zf_RX8_9 znt_a zk_35 zb_35 zr_35_0 dX8_dayAt_11 ?_
      refine zv_iload_n X dX8_dayAt_14 rfl rfl ?_
      refine zb e (fun v2 gv2 e => ?_)
      refine zv_iald X zk_36 zl_36 zb_36 dX8_dayAt_15 gv2 ?_
      refine zv_iload_n X dX8_dayAt_16 rfl rfl ?_
      refine zv_icmp_ne (tgt := 27) X dX8_dayAt_17 (by decide) (fun c3 => ?_) (fun c3 => ?_)
      · replace e := zif e c3
        refine zv_iinc (k := 2) (v := a2 + (1 : Int32)) (lv' := [(2, .int (a2 + (1 : Int32))), (0, .ref 35), (1, .int a1)]) X dX8_dayAt_27 rfl rfl (Nat.le_of_ble_eq_true rfl) rfl ?_
        refine zv_goto (tgt := 2) X dX8_dayAt_30 (by decide) ?_
        exact zv_pick X [1, 2, 0] rfl (ih _ _ _ e)
      · replace e := zit e c3
        refine zv_aload_n X dX8_dayAt_20 rfl rfl ?_
        refine zv_getR X zf_RX8_24 znt_a zk_35 zb_35 zr_35_4 dX8_dayAt_21 ?_
        refine zv_iload_n X dX8_dayAt_24 rfl rfl ?_
        refine zb e (fun v4 gv4 e => ?_)
        refine zv_iald X zk_40 zl_40 zb_40 dX8_dayAt_25 gv4 ?_
        exact zv_retI X e rfl dX8_dayAt_26
set_option maxRecDepth 100000 in
set_option maxHeartbeats 4000000 in
theorem k_X8_dayAt {l : Launch} {D : va_G} {cy : Nat → ClassId} {S0 d : Nat} (hd : 0 ≤ d) {a1 : Int32} {h : zHp} {q : (Int32 × zHp)} (e : s_X8_dayAt a1 h = some q) : zCT l D cy S0 d yX8_dayAt cX8_dayAt 3 (some .int) [.ref 35, .int a1] 117 zRF h (some (.int q.1)) 117 zRF q.2 := by
  unfold s_X8_dayAt at e
  refine zCT_of RX8 rfl zm_X8_dayAt (Nat.le_refl _) (Nat.le_of_ble_eq_true rfl) (fun J X => ?_)
  show J 0 [(0, .ref 35), (1, .int a1)] [] 117 zRF h
  refine zv_iconst (v := (0 : Int32)) X dX8_dayAt_0 zic_0 ?_
  refine zv_istore_n (i := 2) (lv' := [(2, .int (0 : Int32)), (0, .ref 35), (1, .int a1)]) X dX8_dayAt_1 rfl (Nat.le_of_ble_eq_true rfl) rfl ?_
  exact zv_pick X [1, 2, 0] rfl (k_X8_dayAt_L2 q hd X _ _ _ _ e)
-- X9_roundOf
def s_X9_roundOf_L26  (h : zHp) : Option (Int32 × zHp) :=
  (s_X9_refused (-2 : Int32) h).bind fun q1 =>
  some (q1.1, q1.2)
def s_X9_roundOf_L63  (h : zHp) : Option (Int32 × zHp) :=
  (s_X9_refused (-6 : Int32) h).bind fun q1 =>
  some (q1.1, q1.2)
def s_X9_roundOf_L118 (b0 : Int32) (h : zHp) : Option (Int32 × zHp) :=
  some (b0, h)
def s_X9_roundOf (a1 : Int32) (a2 : Int32) (a3 : Int32) (h : zHp) : Option (Int32 × zHp) :=
  (s_X4_has a2 h).bind fun q1 =>
  if q1.1 = 0 then
    (s_X9_refused (-1 : Int32) q1.2).bind fun q14 =>
    some (q14.1, q14.2)
  else
    if a3 < 0 then
      s_X9_roundOf_L26 q1.2
    else
      if a3 ≤ (1 : Int32) then
        if (1 : Int32) ≤ a1 then
          if (3 : Int32) < a1 then
            s_X9_roundOf_L63 q1.2
          else
            if ((q1.2.1 0 14) + (7 : Int32)) ≤ (1500 : Int32) then
              (s_X9_planWeek a1 q1.2).bind fun q8 =>
              if a3 = (1 : Int32) then
                (s_X8_handsAt a2 q8.2).bind fun q12 =>
                some (q12.1, q12.2)
              else
                (s_X8_dayAt a2 q8.2).bind fun q10 =>
                if (5 : Int32) ≤ q10.1 then
                  s_X9_roundOf_L118 (-9 : Int32) q10.2
                else
                  s_X9_roundOf_L118 ((q10.2.1 0 14) + q10.1) q10.2
            else
              s_X9_roundOf_L63 q1.2
        else
          (s_X9_refused (-4 : Int32) q1.2).bind fun q13 =>
          some (q13.1, q13.2)
      else
        s_X9_roundOf_L26 q1.2
set_option maxRecDepth 100000 in
set_option maxHeartbeats 4000000 in
theorem k_X9_roundOf_L26 {l : Launch} {D : va_G} {cy : Nat → ClassId} {S0 d : Nat} {J : zJ} (q : (Int32 × zHp)) (hd : 6 ≤ d) (X : zOK l D cy S0 d RX9 cX9_roundOf 5 (yX9_roundOf.name == "<init>") 117 117 (some .int) (zRT 117 zRF (some (.int q.1)) q.2) J) : ∀  (h : zHp), s_X9_roundOf_L26  h = some q → J 26 [(0, .ref 0)] [] 117 zRF h := by
  intro  h e
  unfold s_X9_roundOf_L26 at e
  refine zv_aload_n X dX9_roundOf_26 rfl rfl ?_
  refine zv_bipush (v := (-2 : Int32)) X dX9_roundOf_27 zbp_m2 ?_
  refine zb e (fun q1 gq1 e => ?_)
  refine zv_callV (stk := [.int (-2 : Int32), .ref 0]) (as := [.int (-2 : Int32)]) (st := []) (k := 0) X zl_RX9_108 zm_X9_refused (k_X9_refused (d := d - 1) (by omega) gq1) (by omega) zb_0 (by rw [zk_0]; rfl) rfl rfl (Nat.le_of_ble_eq_true rfl) (Nat.le_refl _) rfl dX9_roundOf_29 ?_
  show J 32 [(0, .ref 0)] [.int q1.1] 117 zRF q1.2
  exact zv_retI X e rfl dX9_roundOf_32
set_option maxRecDepth 100000 in
set_option maxHeartbeats 4000000 in
theorem k_X9_roundOf_L63 {l : Launch} {D : va_G} {cy : Nat → ClassId} {S0 d : Nat} {J : zJ} (q : (Int32 × zHp)) (hd : 6 ≤ d) (X : zOK l D cy S0 d RX9 cX9_roundOf 5 (yX9_roundOf.name == "<init>") 117 117 (some .int) (zRT 117 zRF (some (.int q.1)) q.2) J) : ∀  (h : zHp), s_X9_roundOf_L63  h = some q → J 63 [(0, .ref 0)] [] 117 zRF h := by
  intro  h e
  unfold s_X9_roundOf_L63 at e
  refine zv_aload_n X dX9_roundOf_63 rfl rfl ?_
  refine zv_bipush (v := (-6 : Int32)) X dX9_roundOf_64 zbp_m6 ?_
  refine zb e (fun q1 gq1 e => ?_)
  refine zv_callV (stk := [.int (-6 : Int32), .ref 0]) (as := [.int (-6 : Int32)]) (st := []) (k := 0) X zl_RX9_108 zm_X9_refused (k_X9_refused (d := d - 1) (by omega) gq1) (by omega) zb_0 (by rw [zk_0]; rfl) rfl rfl (Nat.le_of_ble_eq_true rfl) (Nat.le_refl _) rfl dX9_roundOf_66 ?_
  show J 69 [(0, .ref 0)] [.int q1.1] 117 zRF q1.2
  exact zv_retI X e rfl dX9_roundOf_69
set_option maxRecDepth 100000 in
set_option maxHeartbeats 4000000 in
theorem k_X9_roundOf_L118 {l : Launch} {D : va_G} {cy : Nat → ClassId} {S0 d : Nat} {J : zJ} (q : (Int32 × zHp)) (hd : 6 ≤ d) (X : zOK l D cy S0 d RX9 cX9_roundOf 5 (yX9_roundOf.name == "<init>") 117 117 (some .int) (zRT 117 zRF (some (.int q.1)) q.2) J) : ∀ (b0 : Int32) (h : zHp), s_X9_roundOf_L118 b0 h = some q → J 118 [] [.int b0] 117 zRF h := by
  intro b0 h e
  unfold s_X9_roundOf_L118 at e
  exact zv_retI X e rfl dX9_roundOf_118
set_option maxRecDepth 100000 in
set_option maxHeartbeats 4000000 in
theorem k_X9_roundOf {l : Launch} {D : va_G} {cy : Nat → ClassId} {S0 d : Nat} (hd : 6 ≤ d) {a1 : Int32} {a2 : Int32} {a3 : Int32} {h : zHp} {q : (Int32 × zHp)} (e : s_X9_roundOf a1 a2 a3 h = some q) : zCT l D cy S0 d yX9_roundOf cX9_roundOf 5 (some .int) [.ref 0, .int a1, .int a2, .int a3] 117 zRF h (some (.int q.1)) 117 zRF q.2 := by
  unfold s_X9_roundOf at e
  refine zCT_of RX9 rfl zm_X9_roundOf (Nat.le_refl _) (Nat.le_of_ble_eq_true rfl) (fun J X => ?_)
  show J 0 [(0, .ref 0), (1, .int a1), (2, .int a2), (3, .int a3)] [] 117 zRF h
  refine zv_aload_n X dX9_roundOf_0 rfl rfl ?_
  refine zv_getR X zf_RX9_36 znt_o zk_0 zb_0 zr_0_6 dX9_roundOf_1 ?_
  refine zv_iload_n X dX9_roundOf_4 rfl rfl ?_
  refine zb e (fun q1 gq1 e => ?_)
  refine zv_callV (stk := [.int a2, .ref 13]) (as := [.int a2]) (st := []) (k := 13) X zl_RX9_146 zm_X4_has (k_X4_has (d := d - 1) (by omega) gq1) (by omega) zb_13 (by rw [zk_13]; rfl) rfl rfl (Nat.le_of_ble_eq_true rfl) (Nat.le_refl _) rfl dX9_roundOf_5 ?_
  show J 8 [(0, .ref 0), (1, .int a1), (2, .int a2), (3, .int a3)] [.int q1.1] 117 zRF q1.2
  refine zv_if_ne (tgt := 17) X dX9_roundOf_8 (by decide) (fun c2 => ?_) (fun c2 => ?_)
  · replace e := zif e c2
    refine zv_iload_n X dX9_roundOf_17 rfl rfl ?_
    refine zv_if_lt (tgt := 26) X dX9_roundOf_18 (by decide) (fun c3 => ?_) (fun c3 => ?_)
    · replace e := zit e c3
      exact zv_pick X [0] rfl (k_X9_roundOf_L26 q hd X  _ e)
    · replace e := zif e c3
      refine zv_iload_n X dX9_roundOf_21 rfl rfl ?_
      refine zv_iconst (v := (1 : Int32)) X dX9_roundOf_22 zic_1 ?_
      refine zv_icmp_le (tgt := 33) X dX9_roundOf_23 (by decide) (fun c4 => ?_) (fun c4 => ?_)
      · replace e := zit e c4
        refine zv_iload_n X dX9_roundOf_33 rfl rfl ?_
        refine zv_iconst (v := (1 : Int32)) X dX9_roundOf_34 zic_1 ?_
        refine zv_icmp_ge (tgt := 45) X dX9_roundOf_35 (by decide) (fun c5 => ?_) (fun c5 => ?_)
        · replace e := zit e c5
          refine zv_iload_n X dX9_roundOf_45 rfl rfl ?_
          refine zv_iconst (v := (3 : Int32)) X dX9_roundOf_46 zic_3 ?_
          refine zv_icmp_gt (tgt := 63) X dX9_roundOf_47 (by decide) (fun c6 => ?_) (fun c6 => ?_)
          · replace e := zit e c6
            exact zv_pick X [0] rfl (k_X9_roundOf_L63 q hd X  _ e)
          · replace e := zif e c6
            refine zv_aload_n X dX9_roundOf_50 rfl rfl ?_
            refine zv_getI X zf_RX9_95 zk_0 zb_0 dX9_roundOf_51 ?_
            refine zv_bipush (v := (7 : Int32)) X dX9_roundOf_54 zbp_7 ?_
            refine zv_iadd X dX9_roundOf_56 ?_
            refine zv_sipush (v := (1500 : Int32)) X dX9_roundOf_57 zsp_1500 ?_
            refine zv_icmp_le (tgt := 70) X dX9_roundOf_60 (by decide) (fun c7 => ?_) (fun c7 => ?_)
            · replace e := zit e c7
              refine zv_aload_n X dX9_roundOf_70 rfl rfl ?_
              refine zv_iload_n X dX9_roundOf_71 rfl rfl ?_
              refine zb e (fun q8 gq8 e => ?_)
              refine zv_callV (stk := [.int a1, .ref 0]) (as := [.int a1]) (st := []) (k := 0) X zl_RX9_212 zm_X9_planWeek (k_X9_planWeek (d := d - 1) (by omega) gq8) (by omega) zb_0 (by rw [zk_0]; rfl) rfl rfl (Nat.le_of_ble_eq_true rfl) (Nat.le_refl _) rfl dX9_roundOf_72 ?_
              show J 75 [(0, .ref 0), (1, .int a1), (2, .int a2), (3, .int a3)] [.int q8.1] 117 zRF q8.2
              refine zv_pop_i X dX9_roundOf_75 ?_
              refine zv_iload_n X dX9_roundOf_76 rfl rfl ?_
              refine zv_iconst (v := (1 : Int32)) X dX9_roundOf_77 zic_1 ?_
              refine zv_icmp_ne (tgt := 90) X dX9_roundOf_78 (by decide) (fun c9 => ?_) (fun c9 => ?_)
              · replace e := zif e c9
                refine zv_aload_n X dX9_roundOf_90 rfl rfl ?_
                refine zv_getR X zf_RX9_59 znt_o zk_0 zb_0 zr_0_9 dX9_roundOf_91 ?_
                refine zv_iload_n X dX9_roundOf_94 rfl rfl ?_
                refine zb e (fun q10 gq10 e => ?_)
                refine zv_callV (stk := [.int a2, .ref 35]) (as := [.int a2]) (st := []) (k := 35) X zl_RX9_218 zm_X8_dayAt (k_X8_dayAt (d := d - 1) (by omega) gq10) (by omega) zb_35 (by rw [zk_35]; rfl) rfl rfl (Nat.le_of_ble_eq_true rfl) (Nat.le_refl _) rfl dX9_roundOf_95 ?_
                show J 98 [(0, .ref 0), (1, .int a1), (2, .int a2), (3, .int a3)] [.int q10.1] 117 zRF q10.2
                refine zv_istore (i := 4) (lv' := [(4, .int q10.1), (0, .ref 0), (1, .int a1), (2, .int a2), (3, .int a3)]) X dX9_roundOf_98 (Nat.le_of_ble_eq_true rfl) rfl ?_
                refine zv_iload X dX9_roundOf_100 rfl ?_
                refine zv_iconst (v := (5 : Int32)) X dX9_roundOf_102 zic_5 ?_
                refine zv_icmp_ge (tgt := 116) X dX9_roundOf_103 (by decide) (fun c11 => ?_) (fun c11 => ?_)
                · replace e := zit e c11
                  refine zv_bipush (v := (-9 : Int32)) X dX9_roundOf_116 zbp_m9 ?_
                  exact zv_pick X [] rfl (k_X9_roundOf_L118 q hd X _ _ e)
                · replace e := zif e c11
                  refine zv_aload_n X dX9_roundOf_106 rfl rfl ?_
                  refine zv_getI X zf_RX9_95 zk_0 zb_0 dX9_roundOf_107 ?_
                  refine zv_iload X dX9_roundOf_110 rfl ?_
                  refine zv_iadd X dX9_roundOf_112 ?_
                  refine zv_goto (tgt := 118) X dX9_roundOf_113 (by decide) ?_
                  exact zv_pick X [] rfl (k_X9_roundOf_L118 q hd X _ _ e)
              · replace e := zit e c9
                refine zv_aload_n X dX9_roundOf_81 rfl rfl ?_
                refine zv_getR X zf_RX9_59 znt_o zk_0 zb_0 zr_0_9 dX9_roundOf_82 ?_
                refine zv_iload_n X dX9_roundOf_85 rfl rfl ?_
                refine zb e (fun q12 gq12 e => ?_)
                refine zv_callV (stk := [.int a2, .ref 35]) (as := [.int a2]) (st := []) (k := 35) X zl_RX9_215 zm_X8_handsAt (k_X8_handsAt (d := d - 1) (by omega) gq12) (by omega) zb_35 (by rw [zk_35]; rfl) rfl rfl (Nat.le_of_ble_eq_true rfl) (Nat.le_refl _) rfl dX9_roundOf_86 ?_
                show J 89 [(0, .ref 0), (1, .int a1), (2, .int a2), (3, .int a3)] [.int q12.1] 117 zRF q12.2
                exact zv_retI X e rfl dX9_roundOf_89
            · replace e := zif e c7
              exact zv_pick X [0] rfl (k_X9_roundOf_L63 q hd X  _ e)
        · replace e := zif e c5
          refine zv_aload_n X dX9_roundOf_38 rfl rfl ?_
          refine zv_bipush (v := (-4 : Int32)) X dX9_roundOf_39 zbp_m4 ?_
          refine zb e (fun q13 gq13 e => ?_)
          refine zv_callV (stk := [.int (-4 : Int32), .ref 0]) (as := [.int (-4 : Int32)]) (st := []) (k := 0) X zl_RX9_108 zm_X9_refused (k_X9_refused (d := d - 1) (by omega) gq13) (by omega) zb_0 (by rw [zk_0]; rfl) rfl rfl (Nat.le_of_ble_eq_true rfl) (Nat.le_refl _) rfl dX9_roundOf_41 ?_
          show J 44 [(0, .ref 0), (1, .int a1), (2, .int a2), (3, .int a3)] [.int q13.1] 117 zRF q13.2
          exact zv_retI X e rfl dX9_roundOf_44
      · replace e := zif e c4
        exact zv_pick X [0] rfl (k_X9_roundOf_L26 q hd X  _ e)
  · replace e := zit e c2
    refine zv_aload_n X dX9_roundOf_11 rfl rfl ?_
    refine zv_iconst (v := (-1 : Int32)) X dX9_roundOf_12 zic_m1 ?_
    refine zb e (fun q14 gq14 e => ?_)
    refine zv_callV (stk := [.int (-1 : Int32), .ref 0]) (as := [.int (-1 : Int32)]) (st := []) (k := 0) X zl_RX9_108 zm_X9_refused (k_X9_refused (d := d - 1) (by omega) gq14) (by omega) zb_0 (by rw [zk_0]; rfl) rfl rfl (Nat.le_of_ble_eq_true rfl) (Nat.le_refl _) rfl dX9_roundOf_13 ?_
    show J 16 [(0, .ref 0), (1, .int a1), (2, .int a2), (3, .int a3)] [.int q14.1] 117 zRF q14.2
    exact zv_retI X e rfl dX9_roundOf_16
-- X10_roundOf
def s_X10_roundOf_L95 (k63 : Int32 → Int32 → Int32 → Int32 → zHp → Option (Int32 × zHp)) (a2 : Int32) (a3 : Int32) (a7 : Int32) (b0 : Int32) (h : zHp) : Option (Int32 × zHp) :=
  k63 a2 a3 b0 (a7 + (1 : Int32)) h
def s_X10_roundOf_L145 (b0 : Int32) (h : zHp) : Option (Int32 × zHp) :=
  some (b0, h)
def s_X10_roundOf_L63 : Nat → Int32 → Int32 → Int32 → Int32 → zHp → Option (Int32 × zHp)
  | 0, _, _, _, _, _ => none
  | f + 1, a2, a3, a6, a7, h =>
  if (h.1 67 32) ≤ a7 then
    if a6 = (40 : Int32) then
      if a3 = 0 then
        s_X10_roundOf_L145 (-9 : Int32) h
      else
        s_X10_roundOf_L145 (0 : Int32) h
    else
      if a3 = 0 then
        (zdiv a6 (8 : Int32)).bind fun v5 =>
        s_X10_roundOf_L145 ((h.1 67 0) + v5) h
      else
        (zrem a6 (8 : Int32)).bind fun v4 =>
        s_X10_roundOf_L145 v4 h
  else
    (zri h 93 6 a7).bind fun v7 =>
    if v7 = a2 then
      (zri h 97 6 a7).bind fun v9 =>
      s_X10_roundOf_L95 (s_X10_roundOf_L63 f) a2 a3 a7 v9 h
    else
      s_X10_roundOf_L95 (s_X10_roundOf_L63 f) a2 a3 a7 a6 h
def s_X10_roundOf (a1 : Int32) (a2 : Int32) (a3 : Int32) (h : zHp) : Option (Int32 × zHp) :=
  (s_X10_isKitchen a2 h).bind fun q1 =>
  if q1.1 = 0 then
    (s_X10_refuse (-1 : Int32) q1.2).bind fun q10 =>
    some (q10.1, q10.2)
  else
    (s_X10_in a3 (0 : Int32) (1 : Int32) q1.2).bind fun q3 =>
    if q3.1 = 0 then
      (s_X10_refuse (-2 : Int32) q3.2).bind fun q9 =>
      some (q9.1, q9.2)
    else
      (s_X10_wrongRounds a1 q3.2).bind fun q5 =>
      if 0 ≤ q5.1 then
        (s_X10_findRounds a1 q5.2).bind fun q7 =>
        s_X10_roundOf_L63 zFU a2 a3 (40 : Int32) (0 : Int32) q7.2
      else
        (s_X10_refuse q5.1 q5.2).bind fun q8 =>
        some (q8.1, q8.2)
set_option maxRecDepth 100000 in
set_option maxHeartbeats 4000000 in
theorem k_X10_roundOf_L95 {l : Launch} {D : va_G} {cy : Nat → ClassId} {S0 d : Nat} {J : zJ} (q : (Int32 × zHp)) (hd : 8 ≤ d) (X : zOK l D cy S0 d RX10 cX10_roundOf 8 (yX10_roundOf.name == "<init>") 117 117 (some .int) (zRT 117 zRF (some (.int q.1)) q.2) J) {k63 : Int32 → Int32 → Int32 → Int32 → zHp → Option (Int32 × zHp)} (hk63 : ∀ (a2 : Int32) (a3 : Int32) (a6 : Int32) (a7 : Int32) (h : zHp), k63 a2 a3 a6 a7 h = some q → J 63 [(0, .ref 67), (2, .int a2), (3, .int a3), (6, .int a6), (7, .int a7)] [] 117 zRF h) : ∀ (a2 : Int32) (a3 : Int32) (a7 : Int32) (b0 : Int32) (h : zHp), s_X10_roundOf_L95 k63 a2 a3 a7 b0 h = some q → J 95 [(0, .ref 67), (2, .int a2), (3, .int a3), (7, .int a7)] [.int b0] 117 zRF h := by
  intro a2 a3 a7 b0 h e
  unfold s_X10_roundOf_L95 at e
  refine zv_istore (i := 6) (lv' := [(6, .int b0), (0, .ref 67), (2, .int a2), (3, .int a3), (7, .int a7)]) X dX10_roundOf_95 (Nat.le_of_ble_eq_true rfl) rfl ?_
  refine zv_iinc (k := 4) (v := a7 + (1 : Int32)) (lv' := [(7, .int (a7 + (1 : Int32))), (6, .int b0), (0, .ref 67), (2, .int a2), (3, .int a3)]) X dX10_roundOf_97 rfl rfl (Nat.le_of_ble_eq_true rfl) rfl ?_
  refine zv_goto (tgt := 63) X dX10_roundOf_100 (by decide) ?_
  exact zv_pick X [2, 3, 4, 1, 0] rfl (hk63 _ _ _ _ _ e)
set_option maxRecDepth 100000 in
set_option maxHeartbeats 4000000 in
theorem k_X10_roundOf_L145 {l : Launch} {D : va_G} {cy : Nat → ClassId} {S0 d : Nat} {J : zJ} (q : (Int32 × zHp)) (hd : 8 ≤ d) (X : zOK l D cy S0 d RX10 cX10_roundOf 8 (yX10_roundOf.name == "<init>") 117 117 (some .int) (zRT 117 zRF (some (.int q.1)) q.2) J) : ∀ (b0 : Int32) (h : zHp), s_X10_roundOf_L145 b0 h = some q → J 145 [] [.int b0] 117 zRF h := by
  intro b0 h e
  unfold s_X10_roundOf_L145 at e
  exact zv_retI X e rfl dX10_roundOf_145
set_option maxRecDepth 100000 in
set_option maxHeartbeats 4000000 in
theorem k_X10_roundOf_L63 {l : Launch} {D : va_G} {cy : Nat → ClassId} {S0 d : Nat} {J : zJ} (q : (Int32 × zHp)) (hd : 8 ≤ d) (X : zOK l D cy S0 d RX10 cX10_roundOf 8 (yX10_roundOf.name == "<init>") 117 117 (some .int) (zRT 117 zRF (some (.int q.1)) q.2) J) : ∀ (f : Nat) (a2 : Int32) (a3 : Int32) (a6 : Int32) (a7 : Int32) (h : zHp), s_X10_roundOf_L63 f a2 a3 a6 a7 h = some q → J 63 [(0, .ref 67), (2, .int a2), (3, .int a3), (6, .int a6), (7, .int a7)] [] 117 zRF h := by
  intro f
  induction f with
  | zero => intro _ _ _ _ h e; exact absurd e (fun z => by cases z)
  | succ f ih =>
    intro a2 a3 a6 a7 h e
    rw [s_X10_roundOf_L63] at e
    refine zv_iload X dX10_roundOf_63 rfl ?_
    refine zv_aload_n X dX10_roundOf_65 rfl rfl ?_
    refine zv_getI X zf_RX10_232 zk_67 zb_67 dX10_roundOf_66 ?_
    refine zv_icmp_ge (tgt := 103) X dX10_roundOf_69 (by decide) (fun c1 => ?_) (fun c1 => ?_)
    · replace e := zit e c1
      refine zv_iload X dX10_roundOf_103 rfl ?_
      refine zv_bipush (v := (40 : Int32)) X dX10_roundOf_105 zbp_40 ?_
      refine zv_icmp_ne (tgt := 123) X dX10_roundOf_107 (by decide) (fun c2 => ?_) (fun c2 => ?_)
      · replace e := zif e c2
        refine zv_iload_n X dX10_roundOf_123 rfl rfl ?_
        refine zv_if_ne (tgt := 140) X dX10_roundOf_124 (by decide) (fun c3 => ?_) (fun c3 => ?_)
        · replace e := zif e c3
          refine zv_iload X dX10_roundOf_140 rfl ?_
          refine zv_bipush (v := (8 : Int32)) X dX10_roundOf_142 zbp_8 ?_
          refine zb e (fun v4 gv4 e => ?_)
          refine zv_irem X dX10_roundOf_144 gv4 ?_
          exact zv_pick X [] rfl (k_X10_roundOf_L145 q hd X _ _ e)
        · replace e := zit e c3
          refine zv_aload_n X dX10_roundOf_127 rfl rfl ?_
          refine zv_getI X zf_RX10_179 zk_67 zb_67 dX10_roundOf_128 ?_
          refine zv_iload X dX10_roundOf_131 rfl ?_
          refine zv_bipush (v := (8 : Int32)) X dX10_roundOf_133 zbp_8 ?_
          refine zb e (fun v5 gv5 e => ?_)
          refine zv_idiv X dX10_roundOf_135 gv5 ?_
          refine zv_iadd X dX10_roundOf_136 ?_
          refine zv_goto (tgt := 145) X dX10_roundOf_137 (by decide) ?_
          exact zv_pick X [] rfl (k_X10_roundOf_L145 q hd X _ _ e)
      · replace e := zit e c2
        refine zv_iload_n X dX10_roundOf_110 rfl rfl ?_
        refine zv_if_ne (tgt := 119) X dX10_roundOf_111 (by decide) (fun c6 => ?_) (fun c6 => ?_)
        · replace e := zif e c6
          refine zv_iconst (v := (0 : Int32)) X dX10_roundOf_119 zic_0 ?_
          refine zv_goto (tgt := 145) X dX10_roundOf_120 (by decide) ?_
          exact zv_pick X [] rfl (k_X10_roundOf_L145 q hd X _ _ e)
        · replace e := zit e c6
          refine zv_bipush (v := (-9 : Int32)) X dX10_roundOf_114 zbp_m9 ?_
          refine zv_goto (tgt := 145) X dX10_roundOf_116 (by decide) ?_
          exact zv_pick X [] rfl (k_X10_roundOf_L145 q hd X _ _ e)
    · replace e := zif e c1
      refine zv_aload_n X dX10_roundOf_72 rfl rfl ?_
      refine zv_getR X zf_RX10_90 znt_a zk_67 zb_67 zr_67_31 dX10_roundOf_73 ?_
      refine zv_iload X dX10_roundOf_76 rfl ?_
      refine zb e (fun v7 gv7 e => ?_)
      refine zv_iald X zk_93 zl_93 zb_93 dX10_roundOf_78 gv7 ?_
      refine zv_iload_n X dX10_roundOf_79 rfl rfl ?_
      refine zv_icmp_ne (tgt := 93) X dX10_roundOf_80 (by decide) (fun c8 => ?_) (fun c8 => ?_)
      · replace e := zif e c8
        refine zv_iload X dX10_roundOf_93 rfl ?_
        exact zv_pick X [0, 1, 2, 4] rfl (k_X10_roundOf_L95 q hd X ih _ _ _ _ _ e)
      · replace e := zit e c8
        refine zv_aload_n X dX10_roundOf_83 rfl rfl ?_
        refine zv_getR X zf_RX10_102 znt_a zk_67 zb_67 zr_67_36 dX10_roundOf_84 ?_
        refine zv_iload X dX10_roundOf_87 rfl ?_
        refine zb e (fun v9 gv9 e => ?_)
        refine zv_iald X zk_97 zl_97 zb_97 dX10_roundOf_89 gv9 ?_
        refine zv_goto (tgt := 95) X dX10_roundOf_90 (by decide) ?_
        exact zv_pick X [0, 1, 2, 4] rfl (k_X10_roundOf_L95 q hd X ih _ _ _ _ _ e)
set_option maxRecDepth 100000 in
set_option maxHeartbeats 4000000 in
theorem k_X10_roundOf {l : Launch} {D : va_G} {cy : Nat → ClassId} {S0 d : Nat} (hd : 8 ≤ d) {a1 : Int32} {a2 : Int32} {a3 : Int32} {h : zHp} {q : (Int32 × zHp)} (e : s_X10_roundOf a1 a2 a3 h = some q) : zCT l D cy S0 d yX10_roundOf cX10_roundOf 8 (some .int) [.ref 67, .int a1, .int a2, .int a3] 117 zRF h (some (.int q.1)) 117 zRF q.2 := by
  unfold s_X10_roundOf at e
  refine zCT_of RX10 rfl zm_X10_roundOf (Nat.le_refl _) (Nat.le_of_ble_eq_true rfl) (fun J X => ?_)
  show J 0 [(0, .ref 67), (1, .int a1), (2, .int a2), (3, .int a3)] [] 117 zRF h
  refine zv_aload_n X dX10_roundOf_0 rfl rfl ?_
  refine zv_iload_n X dX10_roundOf_1 rfl rfl ?_
  refine zb e (fun q1 gq1 e => ?_)
  refine zv_callV (stk := [.int a2, .ref 67]) (as := [.int a2]) (st := []) (k := 67) X zl_RX10_196 zm_X10_isKitchen (k_X10_isKitchen (d := d - 1) (by omega) gq1) (by omega) zb_67 (by rw [zk_67]; rfl) rfl rfl (Nat.le_of_ble_eq_true rfl) (Nat.le_refl _) rfl dX10_roundOf_2 ?_
  show J 5 [(0, .ref 67), (1, .int a1), (2, .int a2), (3, .int a3)] [.int q1.1] 117 zRF q1.2
  refine zv_if_ne (tgt := 14) X dX10_roundOf_5 (by decide) (fun c2 => ?_) (fun c2 => ?_)
  · replace e := zif e c2
    refine zv_iload_n X dX10_roundOf_14 rfl rfl ?_
    refine zv_iconst (v := (0 : Int32)) X dX10_roundOf_15 zic_0 ?_
    refine zv_iconst (v := (1 : Int32)) X dX10_roundOf_16 zic_1 ?_
    refine zb e (fun q3 gq3 e => ?_)
    refine zv_callS (stk := [.int (1 : Int32), .int (0 : Int32), .int a3]) (as := [.int a3, .int (0 : Int32), .int (1 : Int32)]) (st := []) X zl_RX10_168 zm_X10_in (k_X10_in (d := d - 1) (by omega) gq3) (by omega) rfl (Nat.le_of_ble_eq_true rfl) (Nat.le_refl _) rfl dX10_roundOf_17 ?_
    show J 20 [(0, .ref 67), (1, .int a1), (2, .int a2), (3, .int a3)] [.int q3.1] 117 zRF q3.2
    refine zv_if_ne (tgt := 30) X dX10_roundOf_20 (by decide) (fun c4 => ?_) (fun c4 => ?_)
    · replace e := zif e c4
      refine zv_aload_n X dX10_roundOf_30 rfl rfl ?_
      refine zv_iload_n X dX10_roundOf_31 rfl rfl ?_
      refine zb e (fun q5 gq5 e => ?_)
      refine zv_callV (stk := [.int a1, .ref 67]) (as := [.int a1]) (st := []) (k := 67) X zl_RX10_248 zm_X10_wrongRounds (k_X10_wrongRounds (d := d - 1) (by omega) gq5) (by omega) zb_67 (by rw [zk_67]; rfl) rfl rfl (Nat.le_of_ble_eq_true rfl) (Nat.le_refl _) rfl dX10_roundOf_32 ?_
      show J 35 [(0, .ref 67), (1, .int a1), (2, .int a2), (3, .int a3)] [.int q5.1] 117 zRF q5.2
      refine zv_istore (i := 4) (lv' := [(4, .int q5.1), (0, .ref 67), (1, .int a1), (2, .int a2), (3, .int a3)]) X dX10_roundOf_35 (Nat.le_of_ble_eq_true rfl) rfl ?_
      refine zv_iload X dX10_roundOf_37 rfl ?_
      refine zv_if_ge (tgt := 49) X dX10_roundOf_39 (by decide) (fun c6 => ?_) (fun c6 => ?_)
      · replace e := zit e c6
        refine zv_aload_n X dX10_roundOf_49 rfl rfl ?_
        refine zv_iload_n X dX10_roundOf_50 rfl rfl ?_
        refine zb e (fun q7 gq7 e => ?_)
        refine zv_callV (stk := [.int a1, .ref 67]) (as := [.int a1]) (st := []) (k := 67) X zl_RX10_251 zm_X10_findRounds (k_X10_findRounds (d := d - 1) (by omega) gq7) (by omega) zb_67 (by rw [zk_67]; rfl) rfl rfl (Nat.le_of_ble_eq_true rfl) (Nat.le_refl _) rfl dX10_roundOf_51 ?_
        show J 54 [(4, .int q5.1), (0, .ref 67), (1, .int a1), (2, .int a2), (3, .int a3)] [.int q7.1] 117 zRF q7.2
        refine zv_istore (i := 5) (lv' := [(5, .int q7.1), (4, .int q5.1), (0, .ref 67), (1, .int a1), (2, .int a2), (3, .int a3)]) X dX10_roundOf_54 (Nat.le_of_ble_eq_true rfl) rfl ?_
        refine zv_bipush (v := (40 : Int32)) X dX10_roundOf_56 zbp_40 ?_
        refine zv_istore (i := 6) (lv' := [(6, .int (40 : Int32)), (5, .int q7.1), (4, .int q5.1), (0, .ref 67), (1, .int a1), (2, .int a2), (3, .int a3)]) X dX10_roundOf_58 (Nat.le_of_ble_eq_true rfl) rfl ?_
        refine zv_iconst (v := (0 : Int32)) X dX10_roundOf_60 zic_0 ?_
        refine zv_istore (i := 7) (lv' := [(7, .int (0 : Int32)), (6, .int (40 : Int32)), (5, .int q7.1), (4, .int q5.1), (0, .ref 67), (1, .int a1), (2, .int a2), (3, .int a3)]) X dX10_roundOf_61 (Nat.le_of_ble_eq_true rfl) rfl ?_
        exact zv_pick X [4, 6, 7, 1, 0] rfl (k_X10_roundOf_L63 q hd X _ _ _ _ _ _ e)
      · replace e := zif e c6
        refine zv_aload_n X dX10_roundOf_42 rfl rfl ?_
        refine zv_iload X dX10_roundOf_43 rfl ?_
        refine zb e (fun q8 gq8 e => ?_)
        refine zv_callV (stk := [.int q5.1, .ref 67]) (as := [.int q5.1]) (st := []) (k := 67) X zl_RX10_175 zm_X10_refuse (k_X10_refuse (d := d - 1) (by omega) gq8) (by omega) zb_67 (by rw [zk_67]; rfl) rfl rfl (Nat.le_of_ble_eq_true rfl) (Nat.le_refl _) rfl dX10_roundOf_45 ?_
        show J 48 [(4, .int q5.1), (0, .ref 67), (1, .int a1), (2, .int a2), (3, .int a3)] [.int q8.1] 117 zRF q8.2
        exact zv_retI X e rfl dX10_roundOf_48
    · replace e := zit e c4
      refine zv_aload_n X dX10_roundOf_23 rfl rfl ?_
      refine zv_bipush (v := (-2 : Int32)) X dX10_roundOf_24 zbp_m2 ?_
      refine zb e (fun q9 gq9 e => ?_)
      refine zv_callV (stk := [.int (-2 : Int32), .ref 67]) (as := [.int (-2 : Int32)]) (st := []) (k := 67) X zl_RX10_175 zm_X10_refuse (k_X10_refuse (d := d - 1) (by omega) gq9) (by omega) zb_67 (by rw [zk_67]; rfl) rfl rfl (Nat.le_of_ble_eq_true rfl) (Nat.le_refl _) rfl dX10_roundOf_26 ?_
      show J 29 [(0, .ref 67), (1, .int a1), (2, .int a2), (3, .int a3)] [.int q9.1] 117 zRF q9.2
      exact zv_retI X e rfl dX10_roundOf_29
  · replace e := zit e c2
    refine zv_aload_n X dX10_roundOf_8 rfl rfl ?_
    refine zv_iconst (v := (-1 : Int32)) X dX10_roundOf_9 zic_m1 ?_
    refine zb e (fun q10 gq10 e => ?_)
    refine zv_callV (stk := [.int (-1 : Int32), .ref 67]) (as := [.int (-1 : Int32)]) (st := []) (k := 67) X zl_RX10_175 zm_X10_refuse (k_X10_refuse (d := d - 1) (by omega) gq10) (by omega) zb_67 (by rw [zk_67]; rfl) rfl rfl (Nat.le_of_ble_eq_true rfl) (Nat.le_refl _) rfl dX10_roundOf_10 ?_
    show J 13 [(0, .ref 67), (1, .int a1), (2, .int a2), (3, .int a3)] [.int q10.1] 117 zRF q10.2
    exact zv_retI X e rfl dX10_roundOf_13
-- X5_kitchenOf
def s_X5_kitchenOf (a1 : Int32) (h : zHp) : Option (Int32 × zHp) :=
  (zri h 25 80 a1).bind fun v1 =>
  some (v1, h)
set_option maxRecDepth 100000 in
set_option maxHeartbeats 4000000 in
theorem k_X5_kitchenOf {l : Launch} {D : va_G} {cy : Nat → ClassId} {S0 d : Nat} (hd : 0 ≤ d) {a1 : Int32} {h : zHp} {q : (Int32 × zHp)} (e : s_X5_kitchenOf a1 h = some q) : zCT l D cy S0 d yX5_kitchenOf cX5_kitchenOf 2 (some .int) [.ref 24, .int a1] 117 zRF h (some (.int q.1)) 117 zRF q.2 := by
  unfold s_X5_kitchenOf at e
  refine zCT_of RX5 rfl zm_X5_kitchenOf (Nat.le_refl _) (Nat.le_of_ble_eq_true rfl) (fun J X => ?_)
  show J 0 [(0, .ref 24), (1, .int a1)] [] 117 zRF h
  refine zv_aload_n X dX5_kitchenOf_0 rfl rfl ?_
  refine zv_getR X zf_RX5_9 znt_a zk_24 zb_24 zr_24_1 dX5_kitchenOf_1 ?_
  refine zv_iload_n X dX5_kitchenOf_4 rfl rfl ?_
  refine zb e (fun v1 gv1 e => ?_)
  refine zv_iald X zk_25 zl_25 zb_25 dX5_kitchenOf_5 gv1 ?_
  exact zv_retI X e rfl dX5_kitchenOf_6
-- X5_inspectorOf
def s_X5_inspectorOf (a1 : Int32) (h : zHp) : Option (Int32 × zHp) :=
  (zri h 26 80 a1).bind fun v1 =>
  some (v1, h)
set_option maxRecDepth 100000 in
set_option maxHeartbeats 4000000 in
theorem k_X5_inspectorOf {l : Launch} {D : va_G} {cy : Nat → ClassId} {S0 d : Nat} (hd : 0 ≤ d) {a1 : Int32} {h : zHp} {q : (Int32 × zHp)} (e : s_X5_inspectorOf a1 h = some q) : zCT l D cy S0 d yX5_inspectorOf cX5_inspectorOf 2 (some .int) [.ref 24, .int a1] 117 zRF h (some (.int q.1)) 117 zRF q.2 := by
  unfold s_X5_inspectorOf at e
  refine zCT_of RX5 rfl zm_X5_inspectorOf (Nat.le_refl _) (Nat.le_of_ble_eq_true rfl) (fun J X => ?_)
  show J 0 [(0, .ref 24), (1, .int a1)] [] 117 zRF h
  refine zv_aload_n X dX5_inspectorOf_0 rfl rfl ?_
  refine zv_getR X zf_RX5_15 znt_a zk_24 zb_24 zr_24_2 dX5_inspectorOf_1 ?_
  refine zv_iload_n X dX5_inspectorOf_4 rfl rfl ?_
  refine zb e (fun v1 gv1 e => ?_)
  refine zv_iald X zk_26 zl_26 zb_26 dX5_inspectorOf_5 gv1 ?_
  exact zv_retI X e rfl dX5_inspectorOf_6
-- X3_isDouble
def s_X3_isDouble_L84 (b0 : Int32) (h : zHp) : Option (Int32 × zHp) :=
  (zbo b0).bind fun u1 =>
  some (b0, h)
def s_X3_isDouble_L83  (h : zHp) : Option (Int32 × zHp) :=
  s_X3_isDouble_L84 (0 : Int32) h
def s_X3_isDouble (a1 : Int32) (a2 : Int32) (h : zHp) : Option (Int32 × zHp) :=
  (s_X5_kitchenOf a1 h).bind fun q1 =>
  (s_X5_kitchenOf a2 q1.2).bind fun q2 =>
  if q1.1 = q2.1 then
    (s_X5_dayOf a1 q2.2).bind fun q4 =>
    (s_X5_dayOf a2 q4.2).bind fun q5 =>
    if q4.1 = q5.1 then
      (s_X5_inspectorOf a1 q5.2).bind fun q7 =>
      (s_X5_inspectorOf a2 q7.2).bind fun q8 =>
      if q7.1 = q8.1 then
        s_X3_isDouble_L83 q8.2
      else
        (s_X5_isTakenBack a1 q8.2).bind fun q10 =>
        if q10.1 = 0 then
          (s_X5_isTakenBack a2 q10.2).bind fun q12 =>
          if q12.1 = 0 then
            s_X3_isDouble_L84 (1 : Int32) q12.2
          else
            s_X3_isDouble_L83 q12.2
        else
          s_X3_isDouble_L83 q10.2
    else
      s_X3_isDouble_L83 q5.2
  else
    s_X3_isDouble_L83 q2.2
set_option maxRecDepth 100000 in
set_option maxHeartbeats 4000000 in
theorem k_X3_isDouble_L84 {l : Launch} {D : va_G} {cy : Nat → ClassId} {S0 d : Nat} {J : zJ} (q : (Int32 × zHp)) (hd : 1 ≤ d) (X : zOK l D cy S0 d RX3 cX3_isDouble 3 (yX3_isDouble.name == "<init>") 117 117 (some .boolean) (zRT 117 zRF (some (.int q.1)) q.2) J) : ∀ (b0 : Int32) (h : zHp), s_X3_isDouble_L84 b0 h = some q → J 84 [] [.int b0] 117 zRF h := by
  intro b0 h e
  unfold s_X3_isDouble_L84 at e
  refine zb e (fun u gu e => ?_)
  exact zv_retZ X e rfl (zbo_ok gu) dX3_isDouble_84
set_option maxRecDepth 100000 in
set_option maxHeartbeats 4000000 in
theorem k_X3_isDouble_L83 {l : Launch} {D : va_G} {cy : Nat → ClassId} {S0 d : Nat} {J : zJ} (q : (Int32 × zHp)) (hd : 1 ≤ d) (X : zOK l D cy S0 d RX3 cX3_isDouble 3 (yX3_isDouble.name == "<init>") 117 117 (some .boolean) (zRT 117 zRF (some (.int q.1)) q.2) J) : ∀  (h : zHp), s_X3_isDouble_L83  h = some q → J 83 [] [] 117 zRF h := by
  intro  h e
  unfold s_X3_isDouble_L83 at e
  refine zv_iconst (v := (0 : Int32)) X dX3_isDouble_83 zic_0 ?_
  exact k_X3_isDouble_L84 q hd X _ _ e
set_option maxRecDepth 100000 in
set_option maxHeartbeats 4000000 in
theorem k_X3_isDouble {l : Launch} {D : va_G} {cy : Nat → ClassId} {S0 d : Nat} (hd : 1 ≤ d) {a1 : Int32} {a2 : Int32} {h : zHp} {q : (Int32 × zHp)} (e : s_X3_isDouble a1 a2 h = some q) : zCT l D cy S0 d yX3_isDouble cX3_isDouble 3 (some .boolean) [.ref 46, .int a1, .int a2] 117 zRF h (some (.int q.1)) 117 zRF q.2 := by
  unfold s_X3_isDouble at e
  refine zCT_of RX3 rfl zm_X3_isDouble (Nat.le_refl _) (Nat.le_of_ble_eq_true rfl) (fun J X => ?_)
  show J 0 [(0, .ref 46), (1, .int a1), (2, .int a2)] [] 117 zRF h
  refine zv_aload_n X dX3_isDouble_0 rfl rfl ?_
  refine zv_getR X zf_RX3_32 znt_o zk_46 zb_46 zr_46_0 dX3_isDouble_1 ?_
  refine zv_iload_n X dX3_isDouble_4 rfl rfl ?_
  refine zb e (fun q1 gq1 e => ?_)
  refine zv_callV (stk := [.int a1, .ref 24]) (as := [.int a1]) (st := []) (k := 24) X zl_RX3_82 zm_X5_kitchenOf (k_X5_kitchenOf (d := d - 1) (by omega) gq1) (by omega) zb_24 (by rw [zk_24]; rfl) rfl rfl (Nat.le_of_ble_eq_true rfl) (Nat.le_refl _) rfl dX3_isDouble_5 ?_
  show J 8 [(0, .ref 46), (1, .int a1), (2, .int a2)] [.int q1.1] 117 zRF q1.2
  refine zv_aload_n X dX3_isDouble_8 rfl rfl ?_
  refine zv_getR X zf_RX3_32 znt_o zk_46 zb_46 zr_46_0 dX3_isDouble_9 ?_
  refine zv_iload_n X dX3_isDouble_12 rfl rfl ?_
  refine zb e (fun q2 gq2 e => ?_)
  refine zv_callV (stk := [.int a2, .ref 24, .int q1.1]) (as := [.int a2]) (st := [.int q1.1]) (k := 24) X zl_RX3_82 zm_X5_kitchenOf (k_X5_kitchenOf (d := d - 1) (by omega) gq2) (by omega) zb_24 (by rw [zk_24]; rfl) rfl rfl (Nat.le_of_ble_eq_true rfl) (Nat.le_refl _) rfl dX3_isDouble_13 ?_
  show J 16 [(0, .ref 46), (1, .int a1), (2, .int a2)] [.int q2.1, .int q1.1] 117 zRF q2.2
  refine zv_icmp_ne (tgt := 83) X dX3_isDouble_16 (by decide) (fun c3 => ?_) (fun c3 => ?_)
  · replace e := zif e c3
    exact zv_pick X [] rfl (k_X3_isDouble_L83 q hd X  _ e)
  · replace e := zit e c3
    refine zv_aload_n X dX3_isDouble_19 rfl rfl ?_
    refine zv_getR X zf_RX3_32 znt_o zk_46 zb_46 zr_46_0 dX3_isDouble_20 ?_
    refine zv_iload_n X dX3_isDouble_23 rfl rfl ?_
    refine zb e (fun q4 gq4 e => ?_)
    refine zv_callV (stk := [.int a1, .ref 24]) (as := [.int a1]) (st := []) (k := 24) X zl_RX3_85 zm_X5_dayOf (k_X5_dayOf (d := d - 1) (by omega) gq4) (by omega) zb_24 (by rw [zk_24]; rfl) rfl rfl (Nat.le_of_ble_eq_true rfl) (Nat.le_refl _) rfl dX3_isDouble_24 ?_
    show J 27 [(0, .ref 46), (1, .int a1), (2, .int a2)] [.int q4.1] 117 zRF q4.2
    refine zv_aload_n X dX3_isDouble_27 rfl rfl ?_
    refine zv_getR X zf_RX3_32 znt_o zk_46 zb_46 zr_46_0 dX3_isDouble_28 ?_
    refine zv_iload_n X dX3_isDouble_31 rfl rfl ?_
    refine zb e (fun q5 gq5 e => ?_)
    refine zv_callV (stk := [.int a2, .ref 24, .int q4.1]) (as := [.int a2]) (st := [.int q4.1]) (k := 24) X zl_RX3_85 zm_X5_dayOf (k_X5_dayOf (d := d - 1) (by omega) gq5) (by omega) zb_24 (by rw [zk_24]; rfl) rfl rfl (Nat.le_of_ble_eq_true rfl) (Nat.le_refl _) rfl dX3_isDouble_32 ?_
    show J 35 [(0, .ref 46), (1, .int a1), (2, .int a2)] [.int q5.1, .int q4.1] 117 zRF q5.2
    refine zv_icmp_ne (tgt := 83) X dX3_isDouble_35 (by decide) (fun c6 => ?_) (fun c6 => ?_)
    · replace e := zif e c6
      exact zv_pick X [] rfl (k_X3_isDouble_L83 q hd X  _ e)
    · replace e := zit e c6
      refine zv_aload_n X dX3_isDouble_38 rfl rfl ?_
      refine zv_getR X zf_RX3_32 znt_o zk_46 zb_46 zr_46_0 dX3_isDouble_39 ?_
      refine zv_iload_n X dX3_isDouble_42 rfl rfl ?_
      refine zb e (fun q7 gq7 e => ?_)
      refine zv_callV (stk := [.int a1, .ref 24]) (as := [.int a1]) (st := []) (k := 24) X zl_RX3_88 zm_X5_inspectorOf (k_X5_inspectorOf (d := d - 1) (by omega) gq7) (by omega) zb_24 (by rw [zk_24]; rfl) rfl rfl (Nat.le_of_ble_eq_true rfl) (Nat.le_refl _) rfl dX3_isDouble_43 ?_
      show J 46 [(0, .ref 46), (1, .int a1), (2, .int a2)] [.int q7.1] 117 zRF q7.2
      refine zv_aload_n X dX3_isDouble_46 rfl rfl ?_
      refine zv_getR X zf_RX3_32 znt_o zk_46 zb_46 zr_46_0 dX3_isDouble_47 ?_
      refine zv_iload_n X dX3_isDouble_50 rfl rfl ?_
      refine zb e (fun q8 gq8 e => ?_)
      refine zv_callV (stk := [.int a2, .ref 24, .int q7.1]) (as := [.int a2]) (st := [.int q7.1]) (k := 24) X zl_RX3_88 zm_X5_inspectorOf (k_X5_inspectorOf (d := d - 1) (by omega) gq8) (by omega) zb_24 (by rw [zk_24]; rfl) rfl rfl (Nat.le_of_ble_eq_true rfl) (Nat.le_refl _) rfl dX3_isDouble_51 ?_
      show J 54 [(0, .ref 46), (1, .int a1), (2, .int a2)] [.int q8.1, .int q7.1] 117 zRF q8.2
      refine zv_icmp_eq (tgt := 83) X dX3_isDouble_54 (by decide) (fun c9 => ?_) (fun c9 => ?_)
      · replace e := zit e c9
        exact zv_pick X [] rfl (k_X3_isDouble_L83 q hd X  _ e)
      · replace e := zif e c9
        refine zv_aload_n X dX3_isDouble_57 rfl rfl ?_
        refine zv_getR X zf_RX3_32 znt_o zk_46 zb_46 zr_46_0 dX3_isDouble_58 ?_
        refine zv_iload_n X dX3_isDouble_61 rfl rfl ?_
        refine zb e (fun q10 gq10 e => ?_)
        refine zv_callV (stk := [.int a1, .ref 24]) (as := [.int a1]) (st := []) (k := 24) X zl_RX3_91 zm_X5_isTakenBack (k_X5_isTakenBack (d := d - 1) (by omega) gq10) (by omega) zb_24 (by rw [zk_24]; rfl) rfl rfl (Nat.le_of_ble_eq_true rfl) (Nat.le_refl _) rfl dX3_isDouble_62 ?_
        show J 65 [(0, .ref 46), (1, .int a1), (2, .int a2)] [.int q10.1] 117 zRF q10.2
        refine zv_if_ne (tgt := 83) X dX3_isDouble_65 (by decide) (fun c11 => ?_) (fun c11 => ?_)
        · replace e := zif e c11
          exact zv_pick X [] rfl (k_X3_isDouble_L83 q hd X  _ e)
        · replace e := zit e c11
          refine zv_aload_n X dX3_isDouble_68 rfl rfl ?_
          refine zv_getR X zf_RX3_32 znt_o zk_46 zb_46 zr_46_0 dX3_isDouble_69 ?_
          refine zv_iload_n X dX3_isDouble_72 rfl rfl ?_
          refine zb e (fun q12 gq12 e => ?_)
          refine zv_callV (stk := [.int a2, .ref 24]) (as := [.int a2]) (st := []) (k := 24) X zl_RX3_91 zm_X5_isTakenBack (k_X5_isTakenBack (d := d - 1) (by omega) gq12) (by omega) zb_24 (by rw [zk_24]; rfl) rfl rfl (Nat.le_of_ble_eq_true rfl) (Nat.le_refl _) rfl dX3_isDouble_73 ?_
          show J 76 [(0, .ref 46), (1, .int a1), (2, .int a2)] [.int q12.1] 117 zRF q12.2
          refine zv_if_ne (tgt := 83) X dX3_isDouble_76 (by decide) (fun c13 => ?_) (fun c13 => ?_)
          · replace e := zif e c13
            exact zv_pick X [] rfl (k_X3_isDouble_L83 q hd X  _ e)
          · replace e := zit e c13
            refine zv_iconst (v := (1 : Int32)) X dX3_isDouble_79 zic_1 ?_
            refine zv_goto (tgt := 84) X dX3_isDouble_80 (by decide) ?_
            exact zv_pick X [] rfl (k_X3_isDouble_L84 q hd X _ _ e)
-- X3_doublesNow
def s_X3_doublesNow_L42 (k4 : Int32 → Int32 → zHp → Option (Int32 × zHp)) (k19 : Int32 → Int32 → Int32 → zHp → Option (Int32 × zHp)) (a1 : Int32) (a2 : Int32) (a3 : Int32) (h : zHp) : Option (Int32 × zHp) :=
  k19 a1 a2 (a3 + (1 : Int32)) h
def s_X3_doublesNow_L19 (k4 : Int32 → Int32 → zHp → Option (Int32 × zHp)) : Nat → Int32 → Int32 → Int32 → zHp → Option (Int32 × zHp)
  | 0, _, _, _, _ => none
  | f + 1, a1, a2, a3, h =>
  (s_X5_size h).bind fun q1 =>
  if q1.1 ≤ a3 then
    k4 a1 (a2 + (1 : Int32)) q1.2
  else
    (s_X3_isDouble a2 a3 q1.2).bind fun q3 =>
    if q3.1 = 0 then
      s_X3_doublesNow_L42 k4 (s_X3_doublesNow_L19 k4 f) a1 a2 a3 q3.2
    else
      s_X3_doublesNow_L42 k4 (s_X3_doublesNow_L19 k4 f) (a1 + (1 : Int32)) a2 a3 q3.2
def s_X3_doublesNow_L4 : Nat → Int32 → Int32 → zHp → Option (Int32 × zHp)
  | 0, _, _, _ => none
  | f + 1, a1, a2, h =>
  (s_X5_size h).bind fun q1 =>
  if q1.1 ≤ a2 then
    some (a1, q1.2)
  else
    (some (a2 + (1 : Int32))).bind fun v3 =>
    s_X3_doublesNow_L19 (s_X3_doublesNow_L4 f) zFU a1 a2 v3 q1.2
def s_X3_doublesNow  (h : zHp) : Option (Int32 × zHp) :=
  s_X3_doublesNow_L4 zFU (0 : Int32) (0 : Int32) h
set_option maxRecDepth 100000 in
set_option maxHeartbeats 4000000 in
theorem k_X3_doublesNow_L42 {l : Launch} {D : va_G} {cy : Nat → ClassId} {S0 d : Nat} {J : zJ} (q : (Int32 × zHp)) (hd : 2 ≤ d) (X : zOK l D cy S0 d RX3 cX3_doublesNow 4 (yX3_doublesNow.name == "<init>") 117 117 (some .int) (zRT 117 zRF (some (.int q.1)) q.2) J) {k4 : Int32 → Int32 → zHp → Option (Int32 × zHp)} (hk4 : ∀ (a1 : Int32) (a2 : Int32) (h : zHp), k4 a1 a2 h = some q → J 4 [(0, .ref 46), (1, .int a1), (2, .int a2)] [] 117 zRF h) {k19 : Int32 → Int32 → Int32 → zHp → Option (Int32 × zHp)} (hk19 : ∀ (a1 : Int32) (a2 : Int32) (a3 : Int32) (h : zHp), k19 a1 a2 a3 h = some q → J 19 [(0, .ref 46), (1, .int a1), (2, .int a2), (3, .int a3)] [] 117 zRF h) : ∀ (a1 : Int32) (a2 : Int32) (a3 : Int32) (h : zHp), s_X3_doublesNow_L42 k4 k19 a1 a2 a3 h = some q → J 42 [(0, .ref 46), (1, .int a1), (2, .int a2), (3, .int a3)] [] 117 zRF h := by
  intro a1 a2 a3 h e
  unfold s_X3_doublesNow_L42 at e
  refine zv_iinc (k := 3) (v := a3 + (1 : Int32)) (lv' := [(3, .int (a3 + (1 : Int32))), (0, .ref 46), (1, .int a1), (2, .int a2)]) X dX3_doublesNow_42 rfl rfl (Nat.le_of_ble_eq_true rfl) rfl ?_
  refine zv_goto (tgt := 19) X dX3_doublesNow_45 (by decide) ?_
  exact zv_pick X [1, 2, 3, 0] rfl (hk19 _ _ _ _ e)
set_option maxRecDepth 100000 in
set_option maxHeartbeats 4000000 in
theorem k_X3_doublesNow_L19 {l : Launch} {D : va_G} {cy : Nat → ClassId} {S0 d : Nat} {J : zJ} (q : (Int32 × zHp)) (hd : 2 ≤ d) (X : zOK l D cy S0 d RX3 cX3_doublesNow 4 (yX3_doublesNow.name == "<init>") 117 117 (some .int) (zRT 117 zRF (some (.int q.1)) q.2) J) {k4 : Int32 → Int32 → zHp → Option (Int32 × zHp)} (hk4 : ∀ (a1 : Int32) (a2 : Int32) (h : zHp), k4 a1 a2 h = some q → J 4 [(0, .ref 46), (1, .int a1), (2, .int a2)] [] 117 zRF h) : ∀ (f : Nat) (a1 : Int32) (a2 : Int32) (a3 : Int32) (h : zHp), s_X3_doublesNow_L19 k4 f a1 a2 a3 h = some q → J 19 [(0, .ref 46), (1, .int a1), (2, .int a2), (3, .int a3)] [] 117 zRF h := by
  intro f
  induction f with
  | zero => intro _ _ _ h e; exact absurd e (fun z => by cases z)
  | succ f ih =>
    intro a1 a2 a3 h e
    rw [s_X3_doublesNow_L19] at e
    refine zv_iload_n X dX3_doublesNow_19 rfl rfl ?_
    refine zv_aload_n X dX3_doublesNow_20 rfl rfl ?_
    refine zv_getR X zf_RX3_32 znt_o zk_46 zb_46 zr_46_0 dX3_doublesNow_21 ?_
    refine zb e (fun q1 gq1 e => ?_)
    refine zv_callV (stk := [.ref 24, .int a3]) (as := []) (st := [.int a3]) (k := 24) X zl_RX3_36 zm_X5_size (k_X5_size (d := d - 1) (by omega) gq1) (by omega) zb_24 (by rw [zk_24]; rfl) rfl rfl (Nat.le_of_ble_eq_true rfl) (Nat.le_refl _) rfl dX3_doublesNow_24 ?_
    show J 27 [(0, .ref 46), (1, .int a1), (2, .int a2), (3, .int a3)] [.int q1.1, .int a3] 117 zRF q1.2
    refine zv_icmp_ge (tgt := 48) X dX3_doublesNow_27 (by decide) (fun c2 => ?_) (fun c2 => ?_)
    · replace e := zit e c2
      refine zv_iinc (k := 2) (v := a2 + (1 : Int32)) (lv' := [(2, .int (a2 + (1 : Int32))), (0, .ref 46), (1, .int a1), (3, .int a3)]) X dX3_doublesNow_48 rfl rfl (Nat.le_of_ble_eq_true rfl) rfl ?_
      refine zv_goto (tgt := 4) X dX3_doublesNow_51 (by decide) ?_
      exact zv_pick X [1, 2, 0] rfl (hk4 _ _ _ e)
    · replace e := zif e c2
      refine zv_aload_n X dX3_doublesNow_30 rfl rfl ?_
      refine zv_iload_n X dX3_doublesNow_31 rfl rfl ?_
      refine zv_iload_n X dX3_doublesNow_32 rfl rfl ?_
      refine zb e (fun q3 gq3 e => ?_)
      refine zv_callV (stk := [.int a3, .int a2, .ref 46]) (as := [.int a2, .int a3]) (st := []) (k := 46) X zl_RX3_42 zm_X3_isDouble (k_X3_isDouble (d := d - 1) (by omega) gq3) (by omega) zb_46 (by rw [zk_46]; rfl) rfl rfl (Nat.le_of_ble_eq_true rfl) (Nat.le_refl _) rfl dX3_doublesNow_33 ?_
      show J 36 [(0, .ref 46), (1, .int a1), (2, .int a2), (3, .int a3)] [.int q3.1] 117 zRF q3.2
      refine zv_if_eq (tgt := 42) X dX3_doublesNow_36 (by decide) (fun c4 => ?_) (fun c4 => ?_)
      · replace e := zit e c4
        exact k_X3_doublesNow_L42 q hd X hk4 ih _ _ _ _ e
      · replace e := zif e c4
        refine zv_iinc (k := 1) (v := a1 + (1 : Int32)) (lv' := [(1, .int (a1 + (1 : Int32))), (0, .ref 46), (2, .int a2), (3, .int a3)]) X dX3_doublesNow_39 rfl rfl (Nat.le_of_ble_eq_true rfl) rfl ?_
        exact zv_pick X [1, 0, 2, 3] rfl (k_X3_doublesNow_L42 q hd X hk4 ih _ _ _ _ e)
set_option maxRecDepth 100000 in
set_option maxHeartbeats 4000000 in
theorem k_X3_doublesNow_L4 {l : Launch} {D : va_G} {cy : Nat → ClassId} {S0 d : Nat} {J : zJ} (q : (Int32 × zHp)) (hd : 2 ≤ d) (X : zOK l D cy S0 d RX3 cX3_doublesNow 4 (yX3_doublesNow.name == "<init>") 117 117 (some .int) (zRT 117 zRF (some (.int q.1)) q.2) J) : ∀ (f : Nat) (a1 : Int32) (a2 : Int32) (h : zHp), s_X3_doublesNow_L4 f a1 a2 h = some q → J 4 [(0, .ref 46), (1, .int a1), (2, .int a2)] [] 117 zRF h := by
  intro f
  induction f with
  | zero => intro _ _ h e; exact absurd e (fun z => by cases z)
  | succ f ih =>
    intro a1 a2 h e
    rw [s_X3_doublesNow_L4] at e
    refine zv_iload_n X dX3_doublesNow_4 rfl rfl ?_
    refine zv_aload_n X dX3_doublesNow_5 rfl rfl ?_
    refine zv_getR X zf_RX3_32 znt_o zk_46 zb_46 zr_46_0 dX3_doublesNow_6 ?_
    refine zb e (fun q1 gq1 e => ?_)
    refine zv_callV (stk := [.ref 24, .int a2]) (as := []) (st := [.int a2]) (k := 24) X zl_RX3_36 zm_X5_size (k_X5_size (d := d - 1) (by omega) gq1) (by omega) zb_24 (by rw [zk_24]; rfl) rfl rfl (Nat.le_of_ble_eq_true rfl) (Nat.le_refl _) rfl dX3_doublesNow_9 ?_
    show J 12 [(0, .ref 46), (1, .int a1), (2, .int a2)] [.int q1.1, .int a2] 117 zRF q1.2
    refine zv_icmp_ge (tgt := 54) X dX3_doublesNow_12 (by decide) (fun c2 => ?_) (fun c2 => ?_)
    · replace e := zit e c2
      refine zv_iload_n X dX3_doublesNow_54 rfl rfl ?_
      exact zv_retI X e rfl dX3_doublesNow_55
    · replace e := zif e c2
      refine zv_iload_n X dX3_doublesNow_15 rfl rfl ?_
      refine zv_iconst (v := (1 : Int32)) X dX3_doublesNow_16 zic_1 ?_
      refine zv_iadd X dX3_doublesNow_17 ?_
      refine zb e (fun v3 gv3 e => ?_)
      refine zv_nmI X gv3 ?_
      refine zv_istore_n (i := 3) (lv' := [(3, .int v3), (0, .ref 46), (1, .int a1), (2, .int a2)]) X dX3_doublesNow_18 rfl (Nat.le_of_ble_eq_true rfl) rfl ?_
      exact zv_pick X [1, 2, 3, 0] rfl (k_X3_doublesNow_L19 q hd X ih _ _ _ _ _ e)
set_option maxRecDepth 100000 in
set_option maxHeartbeats 4000000 in
theorem k_X3_doublesNow {l : Launch} {D : va_G} {cy : Nat → ClassId} {S0 d : Nat} (hd : 2 ≤ d) {h : zHp} {q : (Int32 × zHp)} (e : s_X3_doublesNow  h = some q) : zCT l D cy S0 d yX3_doublesNow cX3_doublesNow 4 (some .int) [.ref 46] 117 zRF h (some (.int q.1)) 117 zRF q.2 := by
  unfold s_X3_doublesNow at e
  refine zCT_of RX3 rfl zm_X3_doublesNow (Nat.le_refl _) (Nat.le_of_ble_eq_true rfl) (fun J X => ?_)
  show J 0 [(0, .ref 46)] [] 117 zRF h
  refine zv_iconst (v := (0 : Int32)) X dX3_doublesNow_0 zic_0 ?_
  refine zv_istore_n (i := 1) (lv' := [(1, .int (0 : Int32)), (0, .ref 46)]) X dX3_doublesNow_1 rfl (Nat.le_of_ble_eq_true rfl) rfl ?_
  refine zv_iconst (v := (0 : Int32)) X dX3_doublesNow_2 zic_0 ?_
  refine zv_istore_n (i := 2) (lv' := [(2, .int (0 : Int32)), (1, .int (0 : Int32)), (0, .ref 46)]) X dX3_doublesNow_3 rfl (Nat.le_of_ble_eq_true rfl) rfl ?_
  exact zv_pick X [2, 1, 0] rfl (k_X3_doublesNow_L4 q hd X _ _ _ _ e)
-- X9_doubles
def s_X9_doubles  (h : zHp) : Option (Int32 × zHp) :=
  (s_X3_doublesNow h).bind fun q1 =>
  some (q1.1, q1.2)
set_option maxRecDepth 100000 in
set_option maxHeartbeats 4000000 in
theorem k_X9_doubles {l : Launch} {D : va_G} {cy : Nat → ClassId} {S0 d : Nat} (hd : 3 ≤ d) {h : zHp} {q : (Int32 × zHp)} (e : s_X9_doubles  h = some q) : zCT l D cy S0 d yX9_doubles cX9_doubles 1 (some .int) [.ref 0] 117 zRF h (some (.int q.1)) 117 zRF q.2 := by
  unfold s_X9_doubles at e
  refine zCT_of RX9 rfl zm_X9_doubles (Nat.le_refl _) (Nat.le_of_ble_eq_true rfl) (fun J X => ?_)
  show J 0 [(0, .ref 0)] [] 117 zRF h
  refine zv_aload_n X dX9_doubles_0 rfl rfl ?_
  refine zv_getR X zf_RX9_68 znt_o zk_0 zb_0 zr_0_10 dX9_doubles_1 ?_
  refine zb e (fun q1 gq1 e => ?_)
  refine zv_callV (stk := [.ref 46]) (as := []) (st := []) (k := 46) X zl_RX9_221 zm_X3_doublesNow (k_X3_doublesNow (d := d - 1) (by omega) gq1) (by omega) zb_46 (by rw [zk_46]; rfl) rfl rfl (Nat.le_of_ble_eq_true rfl) (Nat.le_refl _) rfl dX9_doubles_4 ?_
  show J 7 [(0, .ref 0)] [.int q1.1] 117 zRF q1.2
  exact zv_retI X e rfl dX9_doubles_7
-- X10_isDouble
def s_X10_isDouble_L74 (b0 : Int32) (h : zHp) : Option (Int32 × zHp) :=
  (zbo b0).bind fun u1 =>
  some (b0, h)
def s_X10_isDouble_L73  (h : zHp) : Option (Int32 × zHp) :=
  s_X10_isDouble_L74 (0 : Int32) h
def s_X10_isDouble (a1 : Int32) (a2 : Int32) (h : zHp) : Option (Int32 × zHp) :=
  (zri h 82 80 a1).bind fun v1 =>
  (zri h 82 80 a2).bind fun v2 =>
  if v1 = v2 then
    (zri h 84 80 a1).bind fun v4 =>
    (zri h 84 80 a2).bind fun v5 =>
    if v4 = v5 then
      (zri h 83 80 a1).bind fun v7 =>
      (zri h 83 80 a2).bind fun v8 =>
      if v7 = v8 then
        s_X10_isDouble_L73 h
      else
        (s_X10_countsBy a1 (h.1 67 0) h).bind fun q10 =>
        if q10.1 = 0 then
          s_X10_isDouble_L73 q10.2
        else
          (s_X10_countsBy a2 (q10.2.1 67 0) q10.2).bind fun q12 =>
          if q12.1 = 0 then
            s_X10_isDouble_L73 q12.2
          else
            s_X10_isDouble_L74 (1 : Int32) q12.2
    else
      s_X10_isDouble_L73 h
  else
    s_X10_isDouble_L73 h
set_option maxRecDepth 100000 in
set_option maxHeartbeats 4000000 in
theorem k_X10_isDouble_L74 {l : Launch} {D : va_G} {cy : Nat → ClassId} {S0 d : Nat} {J : zJ} (q : (Int32 × zHp)) (hd : 1 ≤ d) (X : zOK l D cy S0 d RX10 cX10_isDouble 3 (yX10_isDouble.name == "<init>") 117 117 (some .boolean) (zRT 117 zRF (some (.int q.1)) q.2) J) : ∀ (b0 : Int32) (h : zHp), s_X10_isDouble_L74 b0 h = some q → J 74 [] [.int b0] 117 zRF h := by
  intro b0 h e
  unfold s_X10_isDouble_L74 at e
  refine zb e (fun u gu e => ?_)
  exact zv_retZ X e rfl (zbo_ok gu) dX10_isDouble_74
set_option maxRecDepth 100000 in
set_option maxHeartbeats 4000000 in
theorem k_X10_isDouble_L73 {l : Launch} {D : va_G} {cy : Nat → ClassId} {S0 d : Nat} {J : zJ} (q : (Int32 × zHp)) (hd : 1 ≤ d) (X : zOK l D cy S0 d RX10 cX10_isDouble 3 (yX10_isDouble.name == "<init>") 117 117 (some .boolean) (zRT 117 zRF (some (.int q.1)) q.2) J) : ∀  (h : zHp), s_X10_isDouble_L73  h = some q → J 73 [] [] 117 zRF h := by
  intro  h e
  unfold s_X10_isDouble_L73 at e
  refine zv_iconst (v := (0 : Int32)) X dX10_isDouble_73 zic_0 ?_
  exact k_X10_isDouble_L74 q hd X _ _ e
set_option maxRecDepth 100000 in
set_option maxHeartbeats 4000000 in
theorem k_X10_isDouble {l : Launch} {D : va_G} {cy : Nat → ClassId} {S0 d : Nat} (hd : 1 ≤ d) {a1 : Int32} {a2 : Int32} {h : zHp} {q : (Int32 × zHp)} (e : s_X10_isDouble a1 a2 h = some q) : zCT l D cy S0 d yX10_isDouble cX10_isDouble 3 (some .boolean) [.ref 67, .int a1, .int a2] 117 zRF h (some (.int q.1)) 117 zRF q.2 := by
  unfold s_X10_isDouble at e
  refine zCT_of RX10 rfl zm_X10_isDouble (Nat.le_refl _) (Nat.le_of_ble_eq_true rfl) (fun J X => ?_)
  show J 0 [(0, .ref 67), (1, .int a1), (2, .int a2)] [] 117 zRF h
  refine zv_aload_n X dX10_isDouble_0 rfl rfl ?_
  refine zv_getR X zf_RX10_53 znt_a zk_67 zb_67 zr_67_18 dX10_isDouble_1 ?_
  refine zv_iload_n X dX10_isDouble_4 rfl rfl ?_
  refine zb e (fun v1 gv1 e => ?_)
  refine zv_iald X zk_82 zl_82 zb_82 dX10_isDouble_5 gv1 ?_
  refine zv_aload_n X dX10_isDouble_6 rfl rfl ?_
  refine zv_getR X zf_RX10_53 znt_a zk_67 zb_67 zr_67_18 dX10_isDouble_7 ?_
  refine zv_iload_n X dX10_isDouble_10 rfl rfl ?_
  refine zb e (fun v2 gv2 e => ?_)
  refine zv_iald X zk_82 zl_82 zb_82 dX10_isDouble_11 gv2 ?_
  refine zv_icmp_ne (tgt := 73) X dX10_isDouble_12 (by decide) (fun c3 => ?_) (fun c3 => ?_)
  · replace e := zif e c3
    exact zv_pick X [] rfl (k_X10_isDouble_L73 q hd X  _ e)
  · replace e := zit e c3
    refine zv_aload_n X dX10_isDouble_15 rfl rfl ?_
    refine zv_getR X zf_RX10_59 znt_a zk_67 zb_67 zr_67_20 dX10_isDouble_16 ?_
    refine zv_iload_n X dX10_isDouble_19 rfl rfl ?_
    refine zb e (fun v4 gv4 e => ?_)
    refine zv_iald X zk_84 zl_84 zb_84 dX10_isDouble_20 gv4 ?_
    refine zv_aload_n X dX10_isDouble_21 rfl rfl ?_
    refine zv_getR X zf_RX10_59 znt_a zk_67 zb_67 zr_67_20 dX10_isDouble_22 ?_
    refine zv_iload_n X dX10_isDouble_25 rfl rfl ?_
    refine zb e (fun v5 gv5 e => ?_)
    refine zv_iald X zk_84 zl_84 zb_84 dX10_isDouble_26 gv5 ?_
    refine zv_icmp_ne (tgt := 73) X dX10_isDouble_27 (by decide) (fun c6 => ?_) (fun c6 => ?_)
    · replace e := zif e c6
      exact zv_pick X [] rfl (k_X10_isDouble_L73 q hd X  _ e)
    · replace e := zit e c6
      refine zv_aload_n X dX10_isDouble_30 rfl rfl ?_
      refine zv_getR X zf_RX10_56 znt_a zk_67 zb_67 zr_67_19 dX10_isDouble_31 ?_
      refine zv_iload_n X dX10_isDouble_34 rfl rfl ?_
      refine zb e (fun v7 gv7 e => ?_)
      refine zv_iald X zk_83 zl_83 zb_83 dX10_isDouble_35 gv7 ?_
      refine zv_aload_n X dX10_isDouble_36 rfl rfl ?_
      refine zv_getR X zf_RX10_56 znt_a zk_67 zb_67 zr_67_19 dX10_isDouble_37 ?_
      refine zv_iload_n X dX10_isDouble_40 rfl rfl ?_
      refine zb e (fun v8 gv8 e => ?_)
      refine zv_iald X zk_83 zl_83 zb_83 dX10_isDouble_41 gv8 ?_
      refine zv_icmp_eq (tgt := 73) X dX10_isDouble_42 (by decide) (fun c9 => ?_) (fun c9 => ?_)
      · replace e := zit e c9
        exact zv_pick X [] rfl (k_X10_isDouble_L73 q hd X  _ e)
      · replace e := zif e c9
        refine zv_aload_n X dX10_isDouble_45 rfl rfl ?_
        refine zv_iload_n X dX10_isDouble_46 rfl rfl ?_
        refine zv_aload_n X dX10_isDouble_47 rfl rfl ?_
        refine zv_getI X zf_RX10_179 zk_67 zb_67 dX10_isDouble_48 ?_
        refine zb e (fun q10 gq10 e => ?_)
        refine zv_callV (stk := [.int (h.1 67 0), .int a1, .ref 67]) (as := [.int a1, .int (h.1 67 0)]) (st := []) (k := 67) X zl_RX10_208 zm_X10_countsBy (k_X10_countsBy (d := d - 1) (by omega) gq10) (by omega) zb_67 (by rw [zk_67]; rfl) rfl rfl (Nat.le_of_ble_eq_true rfl) (Nat.le_refl _) rfl dX10_isDouble_51 ?_
        show J 54 [(0, .ref 67), (1, .int a1), (2, .int a2)] [.int q10.1] 117 zRF q10.2
        refine zv_if_eq (tgt := 73) X dX10_isDouble_54 (by decide) (fun c11 => ?_) (fun c11 => ?_)
        · replace e := zit e c11
          exact zv_pick X [] rfl (k_X10_isDouble_L73 q hd X  _ e)
        · replace e := zif e c11
          refine zv_aload_n X dX10_isDouble_57 rfl rfl ?_
          refine zv_iload_n X dX10_isDouble_58 rfl rfl ?_
          refine zv_aload_n X dX10_isDouble_59 rfl rfl ?_
          refine zv_getI X zf_RX10_179 zk_67 zb_67 dX10_isDouble_60 ?_
          refine zb e (fun q12 gq12 e => ?_)
          refine zv_callV (stk := [.int (q10.2.1 67 0), .int a2, .ref 67]) (as := [.int a2, .int (q10.2.1 67 0)]) (st := []) (k := 67) X zl_RX10_208 zm_X10_countsBy (k_X10_countsBy (d := d - 1) (by omega) gq12) (by omega) zb_67 (by rw [zk_67]; rfl) rfl rfl (Nat.le_of_ble_eq_true rfl) (Nat.le_refl _) rfl dX10_isDouble_63 ?_
          show J 66 [(0, .ref 67), (1, .int a1), (2, .int a2)] [.int q12.1] 117 zRF q12.2
          refine zv_if_eq (tgt := 73) X dX10_isDouble_66 (by decide) (fun c13 => ?_) (fun c13 => ?_)
          · replace e := zit e c13
            exact zv_pick X [] rfl (k_X10_isDouble_L73 q hd X  _ e)
          · replace e := zif e c13
            refine zv_iconst (v := (1 : Int32)) X dX10_isDouble_69 zic_1 ?_
            refine zv_goto (tgt := 74) X dX10_isDouble_70 (by decide) ?_
            exact zv_pick X [] rfl (k_X10_isDouble_L74 q hd X _ _ e)
-- X10_doubles
def s_X10_doubles_L34 (k4 : Int32 → Int32 → zHp → Option (Int32 × zHp)) (k14 : Int32 → Int32 → Int32 → zHp → Option (Int32 × zHp)) (a2 : Int32) (a3 : Int32) (b0 : Int32) (b1 : Int32) (h : zHp) : Option (Int32 × zHp) :=
  (some (b0 + b1)).bind fun v1 =>
  k14 v1 a2 (a3 + (1 : Int32)) h
def s_X10_doubles_L14 (k4 : Int32 → Int32 → zHp → Option (Int32 × zHp)) : Nat → Int32 → Int32 → Int32 → zHp → Option (Int32 × zHp)
  | 0, _, _, _, _ => none
  | f + 1, a1, a2, a3, h =>
  if a2 ≤ a3 then
    k4 a1 (a2 + (1 : Int32)) h
  else
    (s_X10_isDouble a2 a3 h).bind fun q2 =>
    if q2.1 = 0 then
      s_X10_doubles_L34 k4 (s_X10_doubles_L14 k4 f) a2 a3 a1 (0 : Int32) q2.2
    else
      s_X10_doubles_L34 k4 (s_X10_doubles_L14 k4 f) a2 a3 a1 (1 : Int32) q2.2
def s_X10_doubles_L4 : Nat → Int32 → Int32 → zHp → Option (Int32 × zHp)
  | 0, _, _, _ => none
  | f + 1, a1, a2, h =>
  if (h.1 67 17) ≤ a2 then
    some (a1, h)
  else
    s_X10_doubles_L14 (s_X10_doubles_L4 f) zFU a1 a2 (0 : Int32) h
def s_X10_doubles  (h : zHp) : Option (Int32 × zHp) :=
  s_X10_doubles_L4 zFU (0 : Int32) (0 : Int32) h
set_option maxRecDepth 100000 in
set_option maxHeartbeats 4000000 in
theorem k_X10_doubles_L34 {l : Launch} {D : va_G} {cy : Nat → ClassId} {S0 d : Nat} {J : zJ} (q : (Int32 × zHp)) (hd : 2 ≤ d) (X : zOK l D cy S0 d RX10 cX10_doubles 4 (yX10_doubles.name == "<init>") 117 117 (some .int) (zRT 117 zRF (some (.int q.1)) q.2) J) {k4 : Int32 → Int32 → zHp → Option (Int32 × zHp)} (hk4 : ∀ (a1 : Int32) (a2 : Int32) (h : zHp), k4 a1 a2 h = some q → J 4 [(0, .ref 67), (1, .int a1), (2, .int a2)] [] 117 zRF h) {k14 : Int32 → Int32 → Int32 → zHp → Option (Int32 × zHp)} (hk14 : ∀ (a1 : Int32) (a2 : Int32) (a3 : Int32) (h : zHp), k14 a1 a2 a3 h = some q → J 14 [(0, .ref 67), (1, .int a1), (2, .int a2), (3, .int a3)] [] 117 zRF h) : ∀ (a2 : Int32) (a3 : Int32) (b0 : Int32) (b1 : Int32) (h : zHp), s_X10_doubles_L34 k4 k14 a2 a3 b0 b1 h = some q → J 34 [(0, .ref 67), (2, .int a2), (3, .int a3)] [.int b1, .int b0] 117 zRF h := by
  intro a2 a3 b0 b1 h e
  unfold s_X10_doubles_L34 at e
  refine zv_iadd X dX10_doubles_34 ?_
  refine zb e (fun v1 gv1 e => ?_)
  refine zv_nmI X gv1 ?_
  refine zv_istore_n (i := 1) (lv' := [(1, .int v1), (0, .ref 67), (2, .int a2), (3, .int a3)]) X dX10_doubles_35 rfl (Nat.le_of_ble_eq_true rfl) rfl ?_
  refine zv_iinc (k := 3) (v := a3 + (1 : Int32)) (lv' := [(3, .int (a3 + (1 : Int32))), (1, .int v1), (0, .ref 67), (2, .int a2)]) X dX10_doubles_36 rfl rfl (Nat.le_of_ble_eq_true rfl) rfl ?_
  refine zv_goto (tgt := 14) X dX10_doubles_39 (by decide) ?_
  exact zv_pick X [2, 1, 3, 0] rfl (hk14 _ _ _ _ e)
set_option maxRecDepth 100000 in
set_option maxHeartbeats 4000000 in
theorem k_X10_doubles_L14 {l : Launch} {D : va_G} {cy : Nat → ClassId} {S0 d : Nat} {J : zJ} (q : (Int32 × zHp)) (hd : 2 ≤ d) (X : zOK l D cy S0 d RX10 cX10_doubles 4 (yX10_doubles.name == "<init>") 117 117 (some .int) (zRT 117 zRF (some (.int q.1)) q.2) J) {k4 : Int32 → Int32 → zHp → Option (Int32 × zHp)} (hk4 : ∀ (a1 : Int32) (a2 : Int32) (h : zHp), k4 a1 a2 h = some q → J 4 [(0, .ref 67), (1, .int a1), (2, .int a2)] [] 117 zRF h) : ∀ (f : Nat) (a1 : Int32) (a2 : Int32) (a3 : Int32) (h : zHp), s_X10_doubles_L14 k4 f a1 a2 a3 h = some q → J 14 [(0, .ref 67), (1, .int a1), (2, .int a2), (3, .int a3)] [] 117 zRF h := by
  intro f
  induction f with
  | zero => intro _ _ _ h e; exact absurd e (fun z => by cases z)
  | succ f ih =>
    intro a1 a2 a3 h e
    rw [s_X10_doubles_L14] at e
    refine zv_iload_n X dX10_doubles_14 rfl rfl ?_
    refine zv_iload_n X dX10_doubles_15 rfl rfl ?_
    refine zv_icmp_ge (tgt := 42) X dX10_doubles_16 (by decide) (fun c1 => ?_) (fun c1 => ?_)
    · replace e := zit e c1
      refine zv_iinc (k := 2) (v := a2 + (1 : Int32)) (lv' := [(2, .int (a2 + (1 : Int32))), (0, .ref 67), (1, .int a1), (3, .int a3)]) X dX10_doubles_42 rfl rfl (Nat.le_of_ble_eq_true rfl) rfl ?_
      refine zv_goto (tgt := 4) X dX10_doubles_45 (by decide) ?_
      exact zv_pick X [1, 2, 0] rfl (hk4 _ _ _ e)
    · replace e := zif e c1
      refine zv_iload_n X dX10_doubles_19 rfl rfl ?_
      refine zv_aload_n X dX10_doubles_20 rfl rfl ?_
      refine zv_iload_n X dX10_doubles_21 rfl rfl ?_
      refine zv_iload_n X dX10_doubles_22 rfl rfl ?_
      refine zb e (fun q2 gq2 e => ?_)
      refine zv_callV (stk := [.int a3, .int a2, .ref 67, .int a1]) (as := [.int a2, .int a3]) (st := [.int a1]) (k := 67) X zl_RX10_254 zm_X10_isDouble (k_X10_isDouble (d := d - 1) (by omega) gq2) (by omega) zb_67 (by rw [zk_67]; rfl) rfl rfl (Nat.le_of_ble_eq_true rfl) (Nat.le_refl _) rfl dX10_doubles_23 ?_
      show J 26 [(0, .ref 67), (1, .int a1), (2, .int a2), (3, .int a3)] [.int q2.1, .int a1] 117 zRF q2.2
      refine zv_if_eq (tgt := 33) X dX10_doubles_26 (by decide) (fun c3 => ?_) (fun c3 => ?_)
      · replace e := zit e c3
        refine zv_iconst (v := (0 : Int32)) X dX10_doubles_33 zic_0 ?_
        exact zv_pick X [0, 2, 3] rfl (k_X10_doubles_L34 q hd X hk4 ih _ _ _ _ _ e)
      · replace e := zif e c3
        refine zv_iconst (v := (1 : Int32)) X dX10_doubles_29 zic_1 ?_
        refine zv_goto (tgt := 34) X dX10_doubles_30 (by decide) ?_
        exact zv_pick X [0, 2, 3] rfl (k_X10_doubles_L34 q hd X hk4 ih _ _ _ _ _ e)
set_option maxRecDepth 100000 in
set_option maxHeartbeats 4000000 in
theorem k_X10_doubles_L4 {l : Launch} {D : va_G} {cy : Nat → ClassId} {S0 d : Nat} {J : zJ} (q : (Int32 × zHp)) (hd : 2 ≤ d) (X : zOK l D cy S0 d RX10 cX10_doubles 4 (yX10_doubles.name == "<init>") 117 117 (some .int) (zRT 117 zRF (some (.int q.1)) q.2) J) : ∀ (f : Nat) (a1 : Int32) (a2 : Int32) (h : zHp), s_X10_doubles_L4 f a1 a2 h = some q → J 4 [(0, .ref 67), (1, .int a1), (2, .int a2)] [] 117 zRF h := by
  intro f
  induction f with
  | zero => intro _ _ h e; exact absurd e (fun z => by cases z)
  | succ f ih =>
    intro a1 a2 h e
    rw [s_X10_doubles_L4] at e
    refine zv_iload_n X dX10_doubles_4 rfl rfl ?_
    refine zv_aload_n X dX10_doubles_5 rfl rfl ?_
    refine zv_getI X zf_RX10_172 zk_67 zb_67 dX10_doubles_6 ?_
    refine zv_icmp_ge (tgt := 48) X dX10_doubles_9 (by decide) (fun c1 => ?_) (fun c1 => ?_)
    · replace e := zit e c1
      refine zv_iload_n X dX10_doubles_48 rfl rfl ?_
      exact zv_retI X e rfl dX10_doubles_49
    · replace e := zif e c1
      refine zv_iconst (v := (0 : Int32)) X dX10_doubles_12 zic_0 ?_
      refine zv_istore_n (i := 3) (lv' := [(3, .int (0 : Int32)), (0, .ref 67), (1, .int a1), (2, .int a2)]) X dX10_doubles_13 rfl (Nat.le_of_ble_eq_true rfl) rfl ?_
      exact zv_pick X [1, 2, 3, 0] rfl (k_X10_doubles_L14 q hd X ih _ _ _ _ _ e)
set_option maxRecDepth 100000 in
set_option maxHeartbeats 4000000 in
theorem k_X10_doubles {l : Launch} {D : va_G} {cy : Nat → ClassId} {S0 d : Nat} (hd : 2 ≤ d) {h : zHp} {q : (Int32 × zHp)} (e : s_X10_doubles  h = some q) : zCT l D cy S0 d yX10_doubles cX10_doubles 4 (some .int) [.ref 67] 117 zRF h (some (.int q.1)) 117 zRF q.2 := by
  unfold s_X10_doubles at e
  refine zCT_of RX10 rfl zm_X10_doubles (Nat.le_refl _) (Nat.le_of_ble_eq_true rfl) (fun J X => ?_)
  show J 0 [(0, .ref 67)] [] 117 zRF h
  refine zv_iconst (v := (0 : Int32)) X dX10_doubles_0 zic_0 ?_
  refine zv_istore_n (i := 1) (lv' := [(1, .int (0 : Int32)), (0, .ref 67)]) X dX10_doubles_1 rfl (Nat.le_of_ble_eq_true rfl) rfl ?_
  refine zv_iconst (v := (0 : Int32)) X dX10_doubles_2 zic_0 ?_
  refine zv_istore_n (i := 2) (lv' := [(2, .int (0 : Int32)), (1, .int (0 : Int32)), (0, .ref 67)]) X dX10_doubles_3 rfl (Nat.le_of_ble_eq_true rfl) rfl ?_
  exact zv_pick X [2, 1, 0] rfl (k_X10_doubles_L4 q hd X _ _ _ _ e)
-- X9_refusedLong
def s_X9_refusedLong (a1 : Int32) (h : zHp) : Option (Int64 × zHp) :=
  (s_X9_refused a1 h).bind fun q1 =>
  some ((4000000000000000000 : Int64) - q1.1.toInt64, q1.2)
set_option maxRecDepth 100000 in
set_option maxHeartbeats 4000000 in
theorem k_X9_refusedLong {l : Launch} {D : va_G} {cy : Nat → ClassId} {S0 d : Nat} (hd : 1 ≤ d) {a1 : Int32} {h : zHp} {q : (Int64 × zHp)} (e : s_X9_refusedLong a1 h = some q) : zCT l D cy S0 d yX9_refusedLong cX9_refusedLong 2 (some .long) [.ref 0, .int a1] 117 zRF h (some (.long q.1)) 117 zRF q.2 := by
  unfold s_X9_refusedLong at e
  refine zCT_of RX9 rfl zm_X9_refusedLong (Nat.le_refl _) (Nat.le_of_ble_eq_true rfl) (fun J X => ?_)
  show J 0 [(0, .ref 0), (1, .int a1)] [] 117 zRF h
  refine zv_ldc2 (v := (4000000000000000000 : Int64)) X zc_RX9_298 dX9_refusedLong_0 ?_
  refine zv_aload_n X dX9_refusedLong_3 rfl rfl ?_
  refine zv_iload_n X dX9_refusedLong_4 rfl rfl ?_
  refine zb e (fun q1 gq1 e => ?_)
  refine zv_callV (stk := [.int a1, .ref 0, .long (4000000000000000000 : Int64)]) (as := [.int a1]) (st := [.long (4000000000000000000 : Int64)]) (k := 0) X zl_RX9_108 zm_X9_refused (k_X9_refused (d := d - 1) (by omega) gq1) (by omega) zb_0 (by rw [zk_0]; rfl) rfl rfl (Nat.le_of_ble_eq_true rfl) (Nat.le_refl _) rfl dX9_refusedLong_5 ?_
  show J 8 [(0, .ref 0), (1, .int a1)] [.int q1.1, .long (4000000000000000000 : Int64)] 117 zRF q1.2
  refine zv_i2l X dX9_refusedLong_8 ?_
  refine zv_lsub X dX9_refusedLong_9 ?_
  exact zv_retL X e rfl dX9_refusedLong_10
-- J7_fill_d0a16_48
def s_J7_fill_d0a16_48_L6 : Nat → Int64 → Int32 → Int32 → zHp → Option zHp
  | 0, _, _, _, _ => none
  | f + 1, a1, a3, a4, h =>
  if a4 ≤ a3 then
    some h
  else
    (zuj h 48 25 a3 a1).bind fun h2 =>
    s_J7_fill_d0a16_48_L6 f a1 (a3 + (1 : Int32)) a4 h2
def s_J7_fill_d0a16_48 (a1 : Int64) (h : zHp) : Option zHp :=
  s_J7_fill_d0a16_48_L6 zFU a1 (0 : Int32) (25 : Int32) h
set_option maxRecDepth 100000 in
set_option maxHeartbeats 4000000 in
theorem k_J7_fill_d0a16_48_L6 {l : Launch} {D : va_G} {cy : Nat → ClassId} {S0 d : Nat} {N : Nat} {rf : zRf} (hkN : 48 < N) {J : zJ} (q : zHp) (hd : 0 ≤ d) (X : zOK l D cy S0 d RJ7 cJ7_fill_d0a16 5 (yJ7_fill_d0a16.name == "<init>") N N none (zRT N rf none q) J) : ∀ (f : Nat) (a1 : Int64) (a3 : Int32) (a4 : Int32) (h : zHp), s_J7_fill_d0a16_48_L6 f a1 a3 a4 h = some q → J 6 [(0, .ref 48), (1, .long a1), (3, .int a3), (4, .int a4)] [] N rf h := by
  intro f
  induction f with
  | zero => intro _ _ _ h e; exact absurd e (fun z => by cases z)
  | succ f ih =>
    intro a1 a3 a4 h e
    rw [s_J7_fill_d0a16_48_L6] at e
    refine zv_iload_n X dJ7_fill_d0a16_6 rfl rfl ?_
    refine zv_iload X dJ7_fill_d0a16_7 rfl ?_
    refine zv_icmp_ge (tgt := 22) X dJ7_fill_d0a16_9 (by decide) (fun c1 => ?_) (fun c1 => ?_)
    · replace e := zit e c1
      exact zv_retV X e rfl dJ7_fill_d0a16_22
    · replace e := zif e c1
      refine zv_aload_n X dJ7_fill_d0a16_12 rfl rfl ?_
      refine zv_iload_n X dJ7_fill_d0a16_13 rfl rfl ?_
      refine zv_lload_n X dJ7_fill_d0a16_14 rfl rfl ?_
      refine zb e (fun h2 gh2 e => ?_)
      refine zv_last X zk_48 zl_48 hkN dJ7_fill_d0a16_15 gh2 ?_
      refine zv_iinc (k := 2) (v := a3 + (1 : Int32)) (lv' := [(3, .int (a3 + (1 : Int32))), (0, .ref 48), (1, .long a1), (4, .int a4)]) X dJ7_fill_d0a16_16 rfl rfl (Nat.le_of_ble_eq_true rfl) rfl ?_
      refine zv_goto (tgt := 6) X dJ7_fill_d0a16_19 (by decide) ?_
      exact zv_pick X [1, 2, 0, 3] rfl (ih _ _ _ _ e)
set_option maxRecDepth 100000 in
set_option maxHeartbeats 4000000 in
theorem k_J7_fill_d0a16_48 {l : Launch} {D : va_G} {cy : Nat → ClassId} {S0 d : Nat} {N : Nat} {rf : zRf} (hkN : 48 < N) (hd : 0 ≤ d) {a1 : Int64} {h : zHp} {q : zHp} (e : s_J7_fill_d0a16_48 a1 h = some q) : zCT l D cy S0 d yJ7_fill_d0a16 cJ7_fill_d0a16 5 none [.ref 48, .long a1] N rf h none N rf q := by
  unfold s_J7_fill_d0a16_48 at e
  refine zCT_of RJ7 rfl zm_J7_fill_d0a16 (Nat.le_refl _) (Nat.le_of_ble_eq_true rfl) (fun J X => ?_)
  show J 0 [(0, .ref 48), (1, .long a1)] [] N rf h
  refine zv_iconst (v := (0 : Int32)) X dJ7_fill_d0a16_0 zic_0 ?_
  refine zv_istore_n (i := 3) (lv' := [(3, .int (0 : Int32)), (0, .ref 48), (1, .long a1)]) X dJ7_fill_d0a16_1 rfl (Nat.le_of_ble_eq_true rfl) rfl ?_
  refine zv_aload_n X dJ7_fill_d0a16_2 rfl rfl ?_
  refine zv_alenL (v := (25 : Int32)) X zk_48 zl_48 (by decide) hkN dJ7_fill_d0a16_3 ?_
  refine zv_istore (i := 4) (lv' := [(4, .int (25 : Int32)), (3, .int (0 : Int32)), (0, .ref 48), (1, .long a1)]) X dJ7_fill_d0a16_4 (Nat.le_of_ble_eq_true rfl) rfl ?_
  exact zv_pick X [2, 3, 1, 0] rfl (k_J7_fill_d0a16_48_L6 hkN q hd X _ _ _ _ _ e)
-- J7_fill_d0a16_49
def s_J7_fill_d0a16_49_L6 : Nat → Int64 → Int32 → Int32 → zHp → Option zHp
  | 0, _, _, _, _ => none
  | f + 1, a1, a3, a4, h =>
  if a4 ≤ a3 then
    some h
  else
    (zuj h 49 5 a3 a1).bind fun h2 =>
    s_J7_fill_d0a16_49_L6 f a1 (a3 + (1 : Int32)) a4 h2
def s_J7_fill_d0a16_49 (a1 : Int64) (h : zHp) : Option zHp :=
  s_J7_fill_d0a16_49_L6 zFU a1 (0 : Int32) (5 : Int32) h
set_option maxRecDepth 100000 in
set_option maxHeartbeats 4000000 in
theorem k_J7_fill_d0a16_49_L6 {l : Launch} {D : va_G} {cy : Nat → ClassId} {S0 d : Nat} {N : Nat} {rf : zRf} (hkN : 49 < N) {J : zJ} (q : zHp) (hd : 0 ≤ d) (X : zOK l D cy S0 d RJ7 cJ7_fill_d0a16 5 (yJ7_fill_d0a16.name == "<init>") N N none (zRT N rf none q) J) : ∀ (f : Nat) (a1 : Int64) (a3 : Int32) (a4 : Int32) (h : zHp), s_J7_fill_d0a16_49_L6 f a1 a3 a4 h = some q → J 6 [(0, .ref 49), (1, .long a1), (3, .int a3), (4, .int a4)] [] N rf h := by
  intro f
  induction f with
  | zero => intro _ _ _ h e; exact absurd e (fun z => by cases z)
  | succ f ih =>
    intro a1 a3 a4 h e
    rw [s_J7_fill_d0a16_49_L6] at e
    refine zv_iload_n X dJ7_fill_d0a16_6 rfl rfl ?_
    refine zv_iload X dJ7_fill_d0a16_7 rfl ?_
    refine zv_icmp_ge (tgt := 22) X dJ7_fill_d0a16_9 (by decide) (fun c1 => ?_) (fun c1 => ?_)
    · replace e := zit e c1
      exact zv_retV X e rfl dJ7_fill_d0a16_22
    · replace e := zif e c1
      refine zv_aload_n X dJ7_fill_d0a16_12 rfl rfl ?_
      refine zv_iload_n X dJ7_fill_d0a16_13 rfl rfl ?_
      refine zv_lload_n X dJ7_fill_d0a16_14 rfl rfl ?_
      refine zb e (fun h2 gh2 e => ?_)
      refine zv_last X zk_49 zl_49 hkN dJ7_fill_d0a16_15 gh2 ?_
      refine zv_iinc (k := 2) (v := a3 + (1 : Int32)) (lv' := [(3, .int (a3 + (1 : Int32))), (0, .ref 49), (1, .long a1), (4, .int a4)]) X dJ7_fill_d0a16_16 rfl rfl (Nat.le_of_ble_eq_true rfl) rfl ?_
      refine zv_goto (tgt := 6) X dJ7_fill_d0a16_19 (by decide) ?_
      exact zv_pick X [1, 2, 0, 3] rfl (ih _ _ _ _ e)
set_option maxRecDepth 100000 in
set_option maxHeartbeats 4000000 in
theorem k_J7_fill_d0a16_49 {l : Launch} {D : va_G} {cy : Nat → ClassId} {S0 d : Nat} {N : Nat} {rf : zRf} (hkN : 49 < N) (hd : 0 ≤ d) {a1 : Int64} {h : zHp} {q : zHp} (e : s_J7_fill_d0a16_49 a1 h = some q) : zCT l D cy S0 d yJ7_fill_d0a16 cJ7_fill_d0a16 5 none [.ref 49, .long a1] N rf h none N rf q := by
  unfold s_J7_fill_d0a16_49 at e
  refine zCT_of RJ7 rfl zm_J7_fill_d0a16 (Nat.le_refl _) (Nat.le_of_ble_eq_true rfl) (fun J X => ?_)
  show J 0 [(0, .ref 49), (1, .long a1)] [] N rf h
  refine zv_iconst (v := (0 : Int32)) X dJ7_fill_d0a16_0 zic_0 ?_
  refine zv_istore_n (i := 3) (lv' := [(3, .int (0 : Int32)), (0, .ref 49), (1, .long a1)]) X dJ7_fill_d0a16_1 rfl (Nat.le_of_ble_eq_true rfl) rfl ?_
  refine zv_aload_n X dJ7_fill_d0a16_2 rfl rfl ?_
  refine zv_alenL (v := (5 : Int32)) X zk_49 zl_49 (by decide) hkN dJ7_fill_d0a16_3 ?_
  refine zv_istore (i := 4) (lv' := [(4, .int (5 : Int32)), (3, .int (0 : Int32)), (0, .ref 49), (1, .long a1)]) X dJ7_fill_d0a16_4 (Nat.le_of_ble_eq_true rfl) rfl ?_
  exact zv_pick X [2, 3, 1, 0] rfl (k_J7_fill_d0a16_49_L6 hkN q hd X _ _ _ _ _ e)
-- J7_fill_53178_50
def s_J7_fill_53178_50_L5 : Nat → Int32 → Int32 → Int32 → zHp → Option zHp
  | 0, _, _, _, _ => none
  | f + 1, a1, a2, a3, h =>
  if a3 ≤ a2 then
    some h
  else
    (zui h 50 5 a2 a1).bind fun h2 =>
    s_J7_fill_53178_50_L5 f a1 (a2 + (1 : Int32)) a3 h2
def s_J7_fill_53178_50 (a1 : Int32) (h : zHp) : Option zHp :=
  s_J7_fill_53178_50_L5 zFU a1 (0 : Int32) (5 : Int32) h
set_option maxRecDepth 100000 in
set_option maxHeartbeats 4000000 in
theorem k_J7_fill_53178_50_L5 {l : Launch} {D : va_G} {cy : Nat → ClassId} {S0 d : Nat} {N : Nat} {rf : zRf} (hkN : 50 < N) {J : zJ} (q : zHp) (hd : 0 ≤ d) (X : zOK l D cy S0 d RJ7 cJ7_fill_53178 4 (yJ7_fill_53178.name == "<init>") N N none (zRT N rf none q) J) : ∀ (f : Nat) (a1 : Int32) (a2 : Int32) (a3 : Int32) (h : zHp), s_J7_fill_53178_50_L5 f a1 a2 a3 h = some q → J 5 [(0, .ref 50), (1, .int a1), (2, .int a2), (3, .int a3)] [] N rf h := by
  intro f
  induction f with
  | zero => intro _ _ _ h e; exact absurd e (fun z => by cases z)
  | succ f ih =>
    intro a1 a2 a3 h e
    rw [s_J7_fill_53178_50_L5] at e
    refine zv_iload_n X dJ7_fill_53178_5 rfl rfl ?_
    refine zv_iload_n X dJ7_fill_53178_6 rfl rfl ?_
    refine zv_icmp_ge (tgt := 20) X dJ7_fill_53178_7 (by decide) (fun c1 => ?_) (fun c1 => ?_)
    · replace e := zit e c1
      exact zv_retV X e rfl dJ7_fill_53178_20
    · replace e := zif e c1
      refine zv_aload_n X dJ7_fill_53178_10 rfl rfl ?_
      refine zv_iload_n X dJ7_fill_53178_11 rfl rfl ?_
      refine zv_iload_n X dJ7_fill_53178_12 rfl rfl ?_
      refine zb e (fun h2 gh2 e => ?_)
      refine zv_iast X zk_50 zl_50 hkN dJ7_fill_53178_13 gh2 ?_
      refine zv_iinc (k := 2) (v := a2 + (1 : Int32)) (lv' := [(2, .int (a2 + (1 : Int32))), (0, .ref 50), (1, .int a1), (3, .int a3)]) X dJ7_fill_53178_14 rfl rfl (Nat.le_of_ble_eq_true rfl) rfl ?_
      refine zv_goto (tgt := 5) X dJ7_fill_53178_17 (by decide) ?_
      exact zv_pick X [1, 2, 0, 3] rfl (ih _ _ _ _ e)
set_option maxRecDepth 100000 in
set_option maxHeartbeats 4000000 in
theorem k_J7_fill_53178_50 {l : Launch} {D : va_G} {cy : Nat → ClassId} {S0 d : Nat} {N : Nat} {rf : zRf} (hkN : 50 < N) (hd : 0 ≤ d) {a1 : Int32} {h : zHp} {q : zHp} (e : s_J7_fill_53178_50 a1 h = some q) : zCT l D cy S0 d yJ7_fill_53178 cJ7_fill_53178 4 none [.ref 50, .int a1] N rf h none N rf q := by
  unfold s_J7_fill_53178_50 at e
  refine zCT_of RJ7 rfl zm_J7_fill_53178 (Nat.le_refl _) (Nat.le_of_ble_eq_true rfl) (fun J X => ?_)
  show J 0 [(0, .ref 50), (1, .int a1)] [] N rf h
  refine zv_iconst (v := (0 : Int32)) X dJ7_fill_53178_0 zic_0 ?_
  refine zv_istore_n (i := 2) (lv' := [(2, .int (0 : Int32)), (0, .ref 50), (1, .int a1)]) X dJ7_fill_53178_1 rfl (Nat.le_of_ble_eq_true rfl) rfl ?_
  refine zv_aload_n X dJ7_fill_53178_2 rfl rfl ?_
  refine zv_alenI (v := (5 : Int32)) X zk_50 zl_50 (by decide) hkN dJ7_fill_53178_3 ?_
  refine zv_istore_n (i := 3) (lv' := [(3, .int (5 : Int32)), (2, .int (0 : Int32)), (0, .ref 50), (1, .int a1)]) X dJ7_fill_53178_4 rfl (Nat.le_of_ble_eq_true rfl) rfl ?_
  exact zv_pick X [2, 3, 1, 0] rfl (k_J7_fill_53178_50_L5 hkN q hd X _ _ _ _ _ e)
-- X5_ownScore
def s_X5_ownScore (a1 : Int32) (h : zHp) : Option (Int32 × zHp) :=
  (zri h 27 80 a1).bind fun v1 =>
  (s_X5_scoreOn a1 v1 h).bind fun q2 =>
  some (q2.1, q2.2)
set_option maxRecDepth 100000 in
set_option maxHeartbeats 4000000 in
theorem k_X5_ownScore {l : Launch} {D : va_G} {cy : Nat → ClassId} {S0 d : Nat} (hd : 2 ≤ d) {a1 : Int32} {h : zHp} {q : (Int32 × zHp)} (e : s_X5_ownScore a1 h = some q) : zCT l D cy S0 d yX5_ownScore cX5_ownScore 2 (some .int) [.ref 24, .int a1] 117 zRF h (some (.int q.1)) 117 zRF q.2 := by
  unfold s_X5_ownScore at e
  refine zCT_of RX5 rfl zm_X5_ownScore (Nat.le_refl _) (Nat.le_of_ble_eq_true rfl) (fun J X => ?_)
  show J 0 [(0, .ref 24), (1, .int a1)] [] 117 zRF h
  refine zv_aload_n X dX5_ownScore_0 rfl rfl ?_
  refine zv_iload_n X dX5_ownScore_1 rfl rfl ?_
  refine zv_aload_n X dX5_ownScore_2 rfl rfl ?_
  refine zv_getR X zf_RX5_18 znt_a zk_24 zb_24 zr_24_3 dX5_ownScore_3 ?_
  refine zv_iload_n X dX5_ownScore_6 rfl rfl ?_
  refine zb e (fun v1 gv1 e => ?_)
  refine zv_iald X zk_27 zl_27 zb_27 dX5_ownScore_7 gv1 ?_
  refine zb e (fun q2 gq2 e => ?_)
  refine zv_callV (stk := [.int v1, .int a1, .ref 24]) (as := [.int a1, .int v1]) (st := []) (k := 24) X zl_RX5_50 zm_X5_scoreOn (k_X5_scoreOn (d := d - 1) (by omega) gq2) (by omega) zb_24 (by rw [zk_24]; rfl) rfl rfl (Nat.le_of_ble_eq_true rfl) (Nat.le_refl _) rfl dX5_ownScore_8 ?_
  show J 11 [(0, .ref 24), (1, .int a1)] [.int q2.1] 117 zRF q2.2
  exact zv_retI X e rfl dX5_ownScore_11

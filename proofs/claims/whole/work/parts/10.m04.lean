-- X6_starOn
def s_X6_starOn_L17 : Nat → Int64 → Int64 → Int32 → Int32 → zHp → Option (Int32 × zHp)
  | 0, _, _, _, _, _ => none
  | f + 1, a2, a4, a6, a7, h =>
  if (4 : Int32) ≤ a7 then
    some ((1 : Int32), h)
  else
    (zri h 34 40 ((a6 * (4 : Int32)) + a7)).bind fun v2 =>
    if (v2.toInt64 * a4) ≤ a2 then
      s_X6_starOn_L17 f a2 a4 a6 (a7 + (1 : Int32)) h
    else
      some ((5 : Int32) - a7, h)
def s_X6_starOn (a1 : Int32) (a2 : Int64) (a4 : Int64) (h : zHp) : Option (Int32 × zHp) :=
  (s_X6_inForceOn a1 h).bind fun q1 =>
  if 0 ≤ q1.1 then
    s_X6_starOn_L17 zFU a2 a4 q1.1 (0 : Int32) q1.2
  else
    some ((0 : Int32), q1.2)
set_option maxRecDepth 100000 in
set_option maxHeartbeats 4000000 in
theorem k_X6_starOn_L17 {l : Launch} {D : va_G} {cy : Nat → ClassId} {S0 d : Nat} {J : zJ} (q : (Int32 × zHp)) (hd : 1 ≤ d) (X : zOK l D cy S0 d RX6 cX6_starOn 8 (yX6_starOn.name == "<init>") 117 117 (some .int) (zRT 117 zRF (some (.int q.1)) q.2) J) : ∀ (f : Nat) (a2 : Int64) (a4 : Int64) (a6 : Int32) (a7 : Int32) (h : zHp), s_X6_starOn_L17 f a2 a4 a6 a7 h = some q → J 17 [(0, .ref 32), (2, .long a2), (4, .long a4), (6, .int a6), (7, .int a7)] [] 117 zRF h := by
  intro f
  induction f with
  | zero => intro _ _ _ _ h e; exact absurd e (fun z => by cases z)
  | succ f ih =>
    intro a2 a4 a6 a7 h e
    rw [s_X6_starOn_L17] at e
    refine zv_iload X dX6_starOn_17 rfl ?_
    refine zv_iconst (v := (4 : Int32)) X dX6_starOn_19 zic_4 ?_
    refine zv_icmp_ge (tgt := 55) X dX6_starOn_20 (by decide) (fun c1 => ?_) (fun c1 => ?_)
    · replace e := zit e c1
      refine zv_iconst (v := (1 : Int32)) X dX6_starOn_55 zic_1 ?_
      exact zv_retI X e rfl dX6_starOn_56
    · replace e := zif e c1
      refine zv_lload_n X dX6_starOn_23 rfl rfl ?_
      refine zv_aload_n X dX6_starOn_24 rfl rfl ?_
      refine zv_getR X zf_RX6_15 znt_a zk_32 zb_32 zr_32_1 dX6_starOn_25 ?_
      refine zv_iload X dX6_starOn_28 rfl ?_
      refine zv_iconst (v := (4 : Int32)) X dX6_starOn_30 zic_4 ?_
      refine zv_imul X dX6_starOn_31 ?_
      refine zv_iload X dX6_starOn_32 rfl ?_
      refine zv_iadd X dX6_starOn_34 ?_
      refine zb e (fun v2 gv2 e => ?_)
      refine zv_iald X zk_34 zl_34 zb_34 dX6_starOn_35 gv2 ?_
      refine zv_i2l X dX6_starOn_36 ?_
      refine zv_lload X dX6_starOn_37 rfl ?_
      refine zv_lmul X dX6_starOn_39 ?_
      refine zv_lcmp_ge (tgt := 49) (pc2 := 44) X dX6_starOn_40 rfl dX6_starOn_41 (by decide) rfl (fun c3 => ?_) (fun c3 => ?_)
      · replace e := zit e c3
        refine zv_iinc (k := 4) (v := a7 + (1 : Int32)) (lv' := [(7, .int (a7 + (1 : Int32))), (0, .ref 32), (2, .long a2), (4, .long a4), (6, .int a6)]) X dX6_starOn_49 rfl rfl (Nat.le_of_ble_eq_true rfl) rfl ?_
        refine zv_goto (tgt := 17) X dX6_starOn_52 (by decide) ?_
        exact zv_pick X [1, 2, 3, 4, 0] rfl (ih _ _ _ _ _ e)
      · replace e := zif e c3
        refine zv_iconst (v := (5 : Int32)) X dX6_starOn_44 zic_5 ?_
        refine zv_iload X dX6_starOn_45 rfl ?_
        refine zv_isub X dX6_starOn_47 ?_
        exact zv_retI X e rfl dX6_starOn_48
set_option maxRecDepth 100000 in
set_option maxHeartbeats 4000000 in
theorem k_X6_starOn {l : Launch} {D : va_G} {cy : Nat → ClassId} {S0 d : Nat} (hd : 1 ≤ d) {a1 : Int32} {a2 : Int64} {a4 : Int64} {h : zHp} {q : (Int32 × zHp)} (e : s_X6_starOn a1 a2 a4 h = some q) : zCT l D cy S0 d yX6_starOn cX6_starOn 8 (some .int) [.ref 32, .int a1, .long a2, .long a4] 117 zRF h (some (.int q.1)) 117 zRF q.2 := by
  unfold s_X6_starOn at e
  refine zCT_of RX6 rfl zm_X6_starOn (Nat.le_refl _) (Nat.le_of_ble_eq_true rfl) (fun J X => ?_)
  show J 0 [(0, .ref 32), (1, .int a1), (2, .long a2), (4, .long a4)] [] 117 zRF h
  refine zv_aload_n X dX6_starOn_0 rfl rfl ?_
  refine zv_iload_n X dX6_starOn_1 rfl rfl ?_
  refine zb e (fun q1 gq1 e => ?_)
  refine zv_callV (stk := [.int a1, .ref 32]) (as := [.int a1]) (st := []) (k := 32) X zl_RX6_22 zm_X6_inForceOn (k_X6_inForceOn (d := d - 1) (by omega) gq1) (by omega) zb_32 (by rw [zk_32]; rfl) rfl rfl (Nat.le_of_ble_eq_true rfl) (Nat.le_refl _) rfl dX6_starOn_2 ?_
  show J 5 [(0, .ref 32), (1, .int a1), (2, .long a2), (4, .long a4)] [.int q1.1] 117 zRF q1.2
  refine zv_istore (i := 6) (lv' := [(6, .int q1.1), (0, .ref 32), (1, .int a1), (2, .long a2), (4, .long a4)]) X dX6_starOn_5 (Nat.le_of_ble_eq_true rfl) rfl ?_
  refine zv_iload X dX6_starOn_7 rfl ?_
  refine zv_if_ge (tgt := 14) X dX6_starOn_9 (by decide) (fun c2 => ?_) (fun c2 => ?_)
  · replace e := zit e c2
    refine zv_iconst (v := (0 : Int32)) X dX6_starOn_14 zic_0 ?_
    refine zv_istore (i := 7) (lv' := [(7, .int (0 : Int32)), (6, .int q1.1), (0, .ref 32), (1, .int a1), (2, .long a2), (4, .long a4)]) X dX6_starOn_15 (Nat.le_of_ble_eq_true rfl) rfl ?_
    exact zv_pick X [2, 4, 5, 1, 0] rfl (k_X6_starOn_L17 q hd X _ _ _ _ _ _ e)
  · replace e := zif e c2
    refine zv_iconst (v := (0 : Int32)) X dX6_starOn_12 zic_0 ?_
    exact zv_retI X e rfl dX6_starOn_13
-- X9_starOf
def s_X9_starOf (a1 : Int32) (a2 : Int32) (a3 : Int32) (h : zHp) : Option (Int32 × zHp) :=
  (s_X5_latestOf a1 a2 a3 h).bind fun q1 =>
  if 0 ≤ q1.1 then
    (s_X5_dayOf q1.1 q1.2).bind fun q3 =>
    (s_X5_scoreOn q1.1 q3.1 q3.2).bind fun q4 =>
    (s_X6_starOn q3.1 q4.1.toInt64 (1 : Int64) q4.2).bind fun q5 =>
    some (q5.1, q5.2)
  else
    some ((0 : Int32), q1.2)
set_option maxRecDepth 100000 in
set_option maxHeartbeats 4000000 in
theorem k_X9_starOf {l : Launch} {D : va_G} {cy : Nat → ClassId} {S0 d : Nat} (hd : 2 ≤ d) {a1 : Int32} {a2 : Int32} {a3 : Int32} {h : zHp} {q : (Int32 × zHp)} (e : s_X9_starOf a1 a2 a3 h = some q) : zCT l D cy S0 d yX9_starOf cX9_starOf 6 (some .int) [.ref 0, .int a1, .int a2, .int a3] 117 zRF h (some (.int q.1)) 117 zRF q.2 := by
  unfold s_X9_starOf at e
  refine zCT_of RX9 rfl zm_X9_starOf (Nat.le_refl _) (Nat.le_of_ble_eq_true rfl) (fun J X => ?_)
  show J 0 [(0, .ref 0), (1, .int a1), (2, .int a2), (3, .int a3)] [] 117 zRF h
  refine zv_aload_n X dX9_starOf_0 rfl rfl ?_
  refine zv_getR X zf_RX9_45 znt_o zk_0 zb_0 zr_0_7 dX9_starOf_1 ?_
  refine zv_iload_n X dX9_starOf_4 rfl rfl ?_
  refine zv_iload_n X dX9_starOf_5 rfl rfl ?_
  refine zv_iload_n X dX9_starOf_6 rfl rfl ?_
  refine zb e (fun q1 gq1 e => ?_)
  refine zv_callV (stk := [.int a3, .int a2, .int a1, .ref 24]) (as := [.int a1, .int a2, .int a3]) (st := []) (k := 24) X zl_RX9_245 zm_X5_latestOf (k_X5_latestOf (d := d - 1) (by omega) gq1) (by omega) zb_24 (by rw [zk_24]; rfl) rfl rfl (Nat.le_of_ble_eq_true rfl) (Nat.le_refl _) rfl dX9_starOf_7 ?_
  show J 10 [(0, .ref 0), (1, .int a1), (2, .int a2), (3, .int a3)] [.int q1.1] 117 zRF q1.2
  refine zv_istore (i := 4) (lv' := [(4, .int q1.1), (0, .ref 0), (1, .int a1), (2, .int a2), (3, .int a3)]) X dX9_starOf_10 (Nat.le_of_ble_eq_true rfl) rfl ?_
  refine zv_iload X dX9_starOf_12 rfl ?_
  refine zv_if_ge (tgt := 19) X dX9_starOf_14 (by decide) (fun c2 => ?_) (fun c2 => ?_)
  · replace e := zit e c2
    refine zv_aload_n X dX9_starOf_19 rfl rfl ?_
    refine zv_getR X zf_RX9_45 znt_o zk_0 zb_0 zr_0_7 dX9_starOf_20 ?_
    refine zv_iload X dX9_starOf_23 rfl ?_
    refine zb e (fun q3 gq3 e => ?_)
    refine zv_callV (stk := [.int q1.1, .ref 24]) (as := [.int q1.1]) (st := []) (k := 24) X zl_RX9_172 zm_X5_dayOf (k_X5_dayOf (d := d - 1) (by omega) gq3) (by omega) zb_24 (by rw [zk_24]; rfl) rfl rfl (Nat.le_of_ble_eq_true rfl) (Nat.le_refl _) rfl dX9_starOf_25 ?_
    show J 28 [(4, .int q1.1), (0, .ref 0), (1, .int a1), (2, .int a2), (3, .int a3)] [.int q3.1] 117 zRF q3.2
    refine zv_istore (i := 5) (lv' := [(5, .int q3.1), (4, .int q1.1), (0, .ref 0), (1, .int a1), (2, .int a2), (3, .int a3)]) X dX9_starOf_28 (Nat.le_of_ble_eq_true rfl) rfl ?_
    refine zv_aload_n X dX9_starOf_30 rfl rfl ?_
    refine zv_getR X zf_RX9_52 znt_o zk_0 zb_0 zr_0_8 dX9_starOf_31 ?_
    refine zv_iload X dX9_starOf_34 rfl ?_
    refine zv_aload_n X dX9_starOf_36 rfl rfl ?_
    refine zv_getR X zf_RX9_45 znt_o zk_0 zb_0 zr_0_7 dX9_starOf_37 ?_
    refine zv_iload X dX9_starOf_40 rfl ?_
    refine zv_iload X dX9_starOf_42 rfl ?_
    refine zb e (fun q4 gq4 e => ?_)
    refine zv_callV (stk := [.int q3.1, .int q1.1, .ref 24, .int q3.1, .ref 32]) (as := [.int q1.1, .int q3.1]) (st := [.int q3.1, .ref 32]) (k := 24) X zl_RX9_188 zm_X5_scoreOn (k_X5_scoreOn (d := d - 1) (by omega) gq4) (by omega) zb_24 (by rw [zk_24]; rfl) rfl rfl (Nat.le_of_ble_eq_true rfl) (Nat.le_refl _) rfl dX9_starOf_44 ?_
    show J 47 [(5, .int q3.1), (4, .int q1.1), (0, .ref 0), (1, .int a1), (2, .int a2), (3, .int a3)] [.int q4.1, .int q3.1, .ref 32] 117 zRF q4.2
    refine zv_i2l X dX9_starOf_47 ?_
    refine zv_lconst (v := (1 : Int64)) X dX9_starOf_48 rfl ?_
    refine zb e (fun q5 gq5 e => ?_)
    refine zv_callV (stk := [.long (1 : Int64), .long q4.1.toInt64, .int q3.1, .ref 32]) (as := [.int q3.1, .long q4.1.toInt64, .long (1 : Int64)]) (st := []) (k := 32) X zl_RX9_300 zm_X6_starOn (k_X6_starOn (d := d - 1) (by omega) gq5) (by omega) zb_32 (by rw [zk_32]; rfl) rfl rfl (Nat.le_of_ble_eq_true rfl) (Nat.le_refl _) rfl dX9_starOf_49 ?_
    show J 52 [(5, .int q3.1), (4, .int q1.1), (0, .ref 0), (1, .int a1), (2, .int a2), (3, .int a3)] [.int q5.1] 117 zRF q5.2
    exact zv_retI X e rfl dX9_starOf_52
  · replace e := zif e c2
    refine zv_iconst (v := (0 : Int32)) X dX9_starOf_17 zic_0 ?_
    exact zv_retI X e rfl dX9_starOf_18
-- X9_star
def s_X9_star_L25  (h : zHp) : Option (Int32 × zHp) :=
  (s_X9_refused (-4 : Int32) h).bind fun q1 =>
  some (q1.1, q1.2)
def s_X9_star_L46  (h : zHp) : Option (Int32 × zHp) :=
  (s_X9_refused (-6 : Int32) h).bind fun q1 =>
  some (q1.1, q1.2)
def s_X9_star (a1 : Int32) (a2 : Int32) (a3 : Int32) (h : zHp) : Option (Int32 × zHp) :=
  (s_X4_has a1 h).bind fun q1 =>
  if q1.1 = 0 then
    (s_X9_refused (-1 : Int32) q1.2).bind fun q8 =>
    some (q8.1, q8.2)
  else
    if a2 < 0 then
      s_X9_star_L25 q1.2
    else
      if 0 ≤ a3 then
        if (1500 : Int32) < a2 then
          s_X9_star_L46 q1.2
        else
          if a3 ≤ (1500 : Int32) then
            (s_X9_starOf a1 a2 a3 q1.2).bind fun q7 =>
            some (q7.1, q7.2)
          else
            s_X9_star_L46 q1.2
      else
        s_X9_star_L25 q1.2
set_option maxRecDepth 100000 in
set_option maxHeartbeats 4000000 in
theorem k_X9_star_L25 {l : Launch} {D : va_G} {cy : Nat → ClassId} {S0 d : Nat} {J : zJ} (q : (Int32 × zHp)) (hd : 3 ≤ d) (X : zOK l D cy S0 d RX9 cX9_star 4 (yX9_star.name == "<init>") 117 117 (some .int) (zRT 117 zRF (some (.int q.1)) q.2) J) : ∀  (h : zHp), s_X9_star_L25  h = some q → J 25 [(0, .ref 0)] [] 117 zRF h := by
  intro  h e
  unfold s_X9_star_L25 at e
  refine zv_aload_n X dX9_star_25 rfl rfl ?_
  refine zv_bipush (v := (-4 : Int32)) X dX9_star_26 zbp_m4 ?_
  refine zb e (fun q1 gq1 e => ?_)
  refine zv_callV (stk := [.int (-4 : Int32), .ref 0]) (as := [.int (-4 : Int32)]) (st := []) (k := 0) X zl_RX9_108 zm_X9_refused (k_X9_refused (d := d - 1) (by omega) gq1) (by omega) zb_0 (by rw [zk_0]; rfl) rfl rfl (Nat.le_of_ble_eq_true rfl) (Nat.le_refl _) rfl dX9_star_28 ?_
  show J 31 [(0, .ref 0)] [.int q1.1] 117 zRF q1.2
  exact zv_retI X e rfl dX9_star_31
set_option maxRecDepth 100000 in
set_option maxHeartbeats 4000000 in
theorem k_X9_star_L46 {l : Launch} {D : va_G} {cy : Nat → ClassId} {S0 d : Nat} {J : zJ} (q : (Int32 × zHp)) (hd : 3 ≤ d) (X : zOK l D cy S0 d RX9 cX9_star 4 (yX9_star.name == "<init>") 117 117 (some .int) (zRT 117 zRF (some (.int q.1)) q.2) J) : ∀  (h : zHp), s_X9_star_L46  h = some q → J 46 [(0, .ref 0)] [] 117 zRF h := by
  intro  h e
  unfold s_X9_star_L46 at e
  refine zv_aload_n X dX9_star_46 rfl rfl ?_
  refine zv_bipush (v := (-6 : Int32)) X dX9_star_47 zbp_m6 ?_
  refine zb e (fun q1 gq1 e => ?_)
  refine zv_callV (stk := [.int (-6 : Int32), .ref 0]) (as := [.int (-6 : Int32)]) (st := []) (k := 0) X zl_RX9_108 zm_X9_refused (k_X9_refused (d := d - 1) (by omega) gq1) (by omega) zb_0 (by rw [zk_0]; rfl) rfl rfl (Nat.le_of_ble_eq_true rfl) (Nat.le_refl _) rfl dX9_star_49 ?_
  show J 52 [(0, .ref 0)] [.int q1.1] 117 zRF q1.2
  exact zv_retI X e rfl dX9_star_52
set_option maxRecDepth 100000 in
set_option maxHeartbeats 4000000 in
theorem k_X9_star {l : Launch} {D : va_G} {cy : Nat → ClassId} {S0 d : Nat} (hd : 3 ≤ d) {a1 : Int32} {a2 : Int32} {a3 : Int32} {h : zHp} {q : (Int32 × zHp)} (e : s_X9_star a1 a2 a3 h = some q) : zCT l D cy S0 d yX9_star cX9_star 4 (some .int) [.ref 0, .int a1, .int a2, .int a3] 117 zRF h (some (.int q.1)) 117 zRF q.2 := by
  unfold s_X9_star at e
  refine zCT_of RX9 rfl zm_X9_star (Nat.le_refl _) (Nat.le_of_ble_eq_true rfl) (fun J X => ?_)
  show J 0 [(0, .ref 0), (1, .int a1), (2, .int a2), (3, .int a3)] [] 117 zRF h
  refine zv_aload_n X dX9_star_0 rfl rfl ?_
  refine zv_getR X zf_RX9_36 znt_o zk_0 zb_0 zr_0_6 dX9_star_1 ?_
  refine zv_iload_n X dX9_star_4 rfl rfl ?_
  refine zb e (fun q1 gq1 e => ?_)
  refine zv_callV (stk := [.int a1, .ref 13]) (as := [.int a1]) (st := []) (k := 13) X zl_RX9_146 zm_X4_has (k_X4_has (d := d - 1) (by omega) gq1) (by omega) zb_13 (by rw [zk_13]; rfl) rfl rfl (Nat.le_of_ble_eq_true rfl) (Nat.le_refl _) rfl dX9_star_5 ?_
  show J 8 [(0, .ref 0), (1, .int a1), (2, .int a2), (3, .int a3)] [.int q1.1] 117 zRF q1.2
  refine zv_if_ne (tgt := 17) X dX9_star_8 (by decide) (fun c2 => ?_) (fun c2 => ?_)
  · replace e := zif e c2
    refine zv_iload_n X dX9_star_17 rfl rfl ?_
    refine zv_if_lt (tgt := 25) X dX9_star_18 (by decide) (fun c3 => ?_) (fun c3 => ?_)
    · replace e := zit e c3
      exact zv_pick X [0] rfl (k_X9_star_L25 q hd X  _ e)
    · replace e := zif e c3
      refine zv_iload_n X dX9_star_21 rfl rfl ?_
      refine zv_if_ge (tgt := 32) X dX9_star_22 (by decide) (fun c4 => ?_) (fun c4 => ?_)
      · replace e := zit e c4
        refine zv_iload_n X dX9_star_32 rfl rfl ?_
        refine zv_sipush (v := (1500 : Int32)) X dX9_star_33 zsp_1500 ?_
        refine zv_icmp_gt (tgt := 46) X dX9_star_36 (by decide) (fun c5 => ?_) (fun c5 => ?_)
        · replace e := zit e c5
          exact zv_pick X [0] rfl (k_X9_star_L46 q hd X  _ e)
        · replace e := zif e c5
          refine zv_iload_n X dX9_star_39 rfl rfl ?_
          refine zv_sipush (v := (1500 : Int32)) X dX9_star_40 zsp_1500 ?_
          refine zv_icmp_le (tgt := 53) X dX9_star_43 (by decide) (fun c6 => ?_) (fun c6 => ?_)
          · replace e := zit e c6
            refine zv_aload_n X dX9_star_53 rfl rfl ?_
            refine zv_iload_n X dX9_star_54 rfl rfl ?_
            refine zv_iload_n X dX9_star_55 rfl rfl ?_
            refine zv_iload_n X dX9_star_56 rfl rfl ?_
            refine zb e (fun q7 gq7 e => ?_)
            refine zv_callV (stk := [.int a3, .int a2, .int a1, .ref 0]) (as := [.int a1, .int a2, .int a3]) (st := []) (k := 0) X zl_RX9_193 zm_X9_starOf (k_X9_starOf (d := d - 1) (by omega) gq7) (by omega) zb_0 (by rw [zk_0]; rfl) rfl rfl (Nat.le_of_ble_eq_true rfl) (Nat.le_refl _) rfl dX9_star_57 ?_
            show J 60 [(0, .ref 0), (1, .int a1), (2, .int a2), (3, .int a3)] [.int q7.1] 117 zRF q7.2
            exact zv_retI X e rfl dX9_star_60
          · replace e := zif e c6
            exact zv_pick X [0] rfl (k_X9_star_L46 q hd X  _ e)
      · replace e := zif e c4
        exact zv_pick X [0] rfl (k_X9_star_L25 q hd X  _ e)
  · replace e := zit e c2
    refine zv_aload_n X dX9_star_11 rfl rfl ?_
    refine zv_iconst (v := (-1 : Int32)) X dX9_star_12 zic_m1 ?_
    refine zb e (fun q8 gq8 e => ?_)
    refine zv_callV (stk := [.int (-1 : Int32), .ref 0]) (as := [.int (-1 : Int32)]) (st := []) (k := 0) X zl_RX9_108 zm_X9_refused (k_X9_refused (d := d - 1) (by omega) gq8) (by omega) zb_0 (by rw [zk_0]; rfl) rfl rfl (Nat.le_of_ble_eq_true rfl) (Nat.le_refl _) rfl dX9_star_13 ?_
    show J 16 [(0, .ref 0), (1, .int a1), (2, .int a2), (3, .int a3)] [.int q8.1] 117 zRF q8.2
    exact zv_retI X e rfl dX9_star_16
-- X10_countsBy
def s_X10_countsBy_L34 (b0 : Int32) (h : zHp) : Option (Int32 × zHp) :=
  (zbo b0).bind fun u1 =>
  some (b0, h)
def s_X10_countsBy_L29  (h : zHp) : Option (Int32 × zHp) :=
  s_X10_countsBy_L34 (1 : Int32) h
def s_X10_countsBy_L33  (h : zHp) : Option (Int32 × zHp) :=
  s_X10_countsBy_L34 (0 : Int32) h
def s_X10_countsBy (a1 : Int32) (a2 : Int32) (h : zHp) : Option (Int32 × zHp) :=
  (zri h 85 80 a1).bind fun v1 =>
  if a2 < v1 then
    s_X10_countsBy_L33 h
  else
    (zri h 86 80 a1).bind fun v3 =>
    if v3 < 0 then
      s_X10_countsBy_L29 h
    else
      (zri h 86 80 a1).bind fun v5 =>
      if v5 ≤ a2 then
        s_X10_countsBy_L33 h
      else
        s_X10_countsBy_L29 h
set_option maxRecDepth 100000 in
set_option maxHeartbeats 4000000 in
theorem k_X10_countsBy_L34 {l : Launch} {D : va_G} {cy : Nat → ClassId} {S0 d : Nat} {J : zJ} (q : (Int32 × zHp)) (hd : 0 ≤ d) (X : zOK l D cy S0 d RX10 cX10_countsBy 3 (yX10_countsBy.name == "<init>") 117 117 (some .boolean) (zRT 117 zRF (some (.int q.1)) q.2) J) : ∀ (b0 : Int32) (h : zHp), s_X10_countsBy_L34 b0 h = some q → J 34 [] [.int b0] 117 zRF h := by
  intro b0 h e
  unfold s_X10_countsBy_L34 at e
  refine zb e (fun u gu e => ?_)
  exact zv_retZ X e rfl (zbo_ok gu) dX10_countsBy_34
set_option maxRecDepth 100000 in
set_option maxHeartbeats 4000000 in
theorem k_X10_countsBy_L29 {l : Launch} {D : va_G} {cy : Nat → ClassId} {S0 d : Nat} {J : zJ} (q : (Int32 × zHp)) (hd : 0 ≤ d) (X : zOK l D cy S0 d RX10 cX10_countsBy 3 (yX10_countsBy.name == "<init>") 117 117 (some .boolean) (zRT 117 zRF (some (.int q.1)) q.2) J) : ∀  (h : zHp), s_X10_countsBy_L29  h = some q → J 29 [] [] 117 zRF h := by
  intro  h e
  unfold s_X10_countsBy_L29 at e
  refine zv_iconst (v := (1 : Int32)) X dX10_countsBy_29 zic_1 ?_
  refine zv_goto (tgt := 34) X dX10_countsBy_30 (by decide) ?_
  exact k_X10_countsBy_L34 q hd X _ _ e
set_option maxRecDepth 100000 in
set_option maxHeartbeats 4000000 in
theorem k_X10_countsBy_L33 {l : Launch} {D : va_G} {cy : Nat → ClassId} {S0 d : Nat} {J : zJ} (q : (Int32 × zHp)) (hd : 0 ≤ d) (X : zOK l D cy S0 d RX10 cX10_countsBy 3 (yX10_countsBy.name == "<init>") 117 117 (some .boolean) (zRT 117 zRF (some (.int q.1)) q.2) J) : ∀  (h : zHp), s_X10_countsBy_L33  h = some q → J 33 [] [] 117 zRF h := by
  intro  h e
  unfold s_X10_countsBy_L33 at e
  refine zv_iconst (v := (0 : Int32)) X dX10_countsBy_33 zic_0 ?_
  exact k_X10_countsBy_L34 q hd X _ _ e
set_option maxRecDepth 100000 in
set_option maxHeartbeats 4000000 in
theorem k_X10_countsBy {l : Launch} {D : va_G} {cy : Nat → ClassId} {S0 d : Nat} (hd : 0 ≤ d) {a1 : Int32} {a2 : Int32} {h : zHp} {q : (Int32 × zHp)} (e : s_X10_countsBy a1 a2 h = some q) : zCT l D cy S0 d yX10_countsBy cX10_countsBy 3 (some .boolean) [.ref 67, .int a1, .int a2] 117 zRF h (some (.int q.1)) 117 zRF q.2 := by
  unfold s_X10_countsBy at e
  refine zCT_of RX10 rfl zm_X10_countsBy (Nat.le_refl _) (Nat.le_of_ble_eq_true rfl) (fun J X => ?_)
  show J 0 [(0, .ref 67), (1, .int a1), (2, .int a2)] [] 117 zRF h
  refine zv_aload_n X dX10_countsBy_0 rfl rfl ?_
  refine zv_getR X zf_RX10_62 znt_a zk_67 zb_67 zr_67_21 dX10_countsBy_1 ?_
  refine zv_iload_n X dX10_countsBy_4 rfl rfl ?_
  refine zb e (fun v1 gv1 e => ?_)
  refine zv_iald X zk_85 zl_85 zb_85 dX10_countsBy_5 gv1 ?_
  refine zv_iload_n X dX10_countsBy_6 rfl rfl ?_
  refine zv_icmp_gt (tgt := 33) X dX10_countsBy_7 (by decide) (fun c2 => ?_) (fun c2 => ?_)
  · replace e := zit e c2
    exact zv_pick X [] rfl (k_X10_countsBy_L33 q hd X  _ e)
  · replace e := zif e c2
    refine zv_aload_n X dX10_countsBy_10 rfl rfl ?_
    refine zv_getR X zf_RX10_65 znt_a zk_67 zb_67 zr_67_22 dX10_countsBy_11 ?_
    refine zv_iload_n X dX10_countsBy_14 rfl rfl ?_
    refine zb e (fun v3 gv3 e => ?_)
    refine zv_iald X zk_86 zl_86 zb_86 dX10_countsBy_15 gv3 ?_
    refine zv_if_lt (tgt := 29) X dX10_countsBy_16 (by decide) (fun c4 => ?_) (fun c4 => ?_)
    · replace e := zit e c4
      exact zv_pick X [] rfl (k_X10_countsBy_L29 q hd X  _ e)
    · replace e := zif e c4
      refine zv_aload_n X dX10_countsBy_19 rfl rfl ?_
      refine zv_getR X zf_RX10_65 znt_a zk_67 zb_67 zr_67_22 dX10_countsBy_20 ?_
      refine zv_iload_n X dX10_countsBy_23 rfl rfl ?_
      refine zb e (fun v5 gv5 e => ?_)
      refine zv_iald X zk_86 zl_86 zb_86 dX10_countsBy_24 gv5 ?_
      refine zv_iload_n X dX10_countsBy_25 rfl rfl ?_
      refine zv_icmp_le (tgt := 33) X dX10_countsBy_26 (by decide) (fun c6 => ?_) (fun c6 => ?_)
      · replace e := zit e c6
        exact zv_pick X [] rfl (k_X10_countsBy_L33 q hd X  _ e)
      · replace e := zif e c6
        exact zv_pick X [] rfl (k_X10_countsBy_L29 q hd X  _ e)
-- X10_lookOn
def s_X10_lookOn_L88 (k6 : Int32 → Int32 → Int32 → Int32 → Int32 → zHp → Option (Int32 × zHp)) (a1 : Int32) (a2 : Int32) (a3 : Int32) (a5 : Int32) (b0 : Int32) (h : zHp) : Option (Int32 × zHp) :=
  k6 a1 a2 a3 b0 (a5 + (1 : Int32)) h
def s_X10_lookOn_L81 (k6 : Int32 → Int32 → Int32 → Int32 → Int32 → zHp → Option (Int32 × zHp)) (a1 : Int32) (a2 : Int32) (a3 : Int32) (a5 : Int32) (h : zHp) : Option (Int32 × zHp) :=
  s_X10_lookOn_L88 k6 a1 a2 a3 a5 a5 h
def s_X10_lookOn_L86 (k6 : Int32 → Int32 → Int32 → Int32 → Int32 → zHp → Option (Int32 × zHp)) (a1 : Int32) (a2 : Int32) (a3 : Int32) (a4 : Int32) (a5 : Int32) (h : zHp) : Option (Int32 × zHp) :=
  s_X10_lookOn_L88 k6 a1 a2 a3 a5 a4 h
def s_X10_lookOn_L52 (k6 : Int32 → Int32 → Int32 → Int32 → Int32 → zHp → Option (Int32 × zHp)) (a1 : Int32) (a2 : Int32) (a3 : Int32) (a4 : Int32) (a5 : Int32) (b0 : Int32) (h : zHp) : Option (Int32 × zHp) :=
  if b0 = 0 then
    s_X10_lookOn_L86 k6 a1 a2 a3 a4 a5 h
  else
    if a4 < 0 then
      s_X10_lookOn_L81 k6 a1 a2 a3 a5 h
    else
      (zri h 84 80 a5).bind fun v3 =>
      (zri h 84 80 a4).bind fun v4 =>
      if v3 < v4 then
        s_X10_lookOn_L86 k6 a1 a2 a3 a4 a5 h
      else
        s_X10_lookOn_L81 k6 a1 a2 a3 a5 h
def s_X10_lookOn_L51 (k6 : Int32 → Int32 → Int32 → Int32 → Int32 → zHp → Option (Int32 × zHp)) (a1 : Int32) (a2 : Int32) (a3 : Int32) (a4 : Int32) (a5 : Int32) (h : zHp) : Option (Int32 × zHp) :=
  s_X10_lookOn_L52 k6 a1 a2 a3 a4 a5 (0 : Int32) h
def s_X10_lookOn_L6 : Nat → Int32 → Int32 → Int32 → Int32 → Int32 → zHp → Option (Int32 × zHp)
  | 0, _, _, _, _, _, _ => none
  | f + 1, a1, a2, a3, a4, a5, h =>
  if (h.1 67 17) ≤ a5 then
    some (a4, h)
  else
    (zri h 82 80 a5).bind fun v2 =>
    if v2 = a1 then
      (zri h 84 80 a5).bind fun v4 =>
      if a2 < v4 then
        s_X10_lookOn_L51 (s_X10_lookOn_L6 f) a1 a2 a3 a4 a5 h
      else
        (s_X10_countsBy a5 a3 h).bind fun q6 =>
        if q6.1 = 0 then
          s_X10_lookOn_L51 (s_X10_lookOn_L6 f) a1 a2 a3 a4 a5 q6.2
        else
          s_X10_lookOn_L52 (s_X10_lookOn_L6 f) a1 a2 a3 a4 a5 (1 : Int32) q6.2
    else
      s_X10_lookOn_L51 (s_X10_lookOn_L6 f) a1 a2 a3 a4 a5 h
def s_X10_lookOn (a1 : Int32) (a2 : Int32) (a3 : Int32) (h : zHp) : Option (Int32 × zHp) :=
  s_X10_lookOn_L6 zFU a1 a2 a3 (-1 : Int32) (0 : Int32) h
set_option maxRecDepth 100000 in
set_option maxHeartbeats 4000000 in
theorem k_X10_lookOn_L88 {l : Launch} {D : va_G} {cy : Nat → ClassId} {S0 d : Nat} {J : zJ} (q : (Int32 × zHp)) (hd : 1 ≤ d) (X : zOK l D cy S0 d RX10 cX10_lookOn 7 (yX10_lookOn.name == "<init>") 117 117 (some .int) (zRT 117 zRF (some (.int q.1)) q.2) J) {k6 : Int32 → Int32 → Int32 → Int32 → Int32 → zHp → Option (Int32 × zHp)} (hk6 : ∀ (a1 : Int32) (a2 : Int32) (a3 : Int32) (a4 : Int32) (a5 : Int32) (h : zHp), k6 a1 a2 a3 a4 a5 h = some q → J 6 [(0, .ref 67), (1, .int a1), (2, .int a2), (3, .int a3), (4, .int a4), (5, .int a5)] [] 117 zRF h) : ∀ (a1 : Int32) (a2 : Int32) (a3 : Int32) (a5 : Int32) (b0 : Int32) (h : zHp), s_X10_lookOn_L88 k6 a1 a2 a3 a5 b0 h = some q → J 88 [(0, .ref 67), (1, .int a1), (2, .int a2), (3, .int a3), (5, .int a5)] [.int b0] 117 zRF h := by
  intro a1 a2 a3 a5 b0 h e
  unfold s_X10_lookOn_L88 at e
  refine zv_istore (i := 4) (lv' := [(4, .int b0), (0, .ref 67), (1, .int a1), (2, .int a2), (3, .int a3), (5, .int a5)]) X dX10_lookOn_88 (Nat.le_of_ble_eq_true rfl) rfl ?_
  refine zv_iinc (k := 5) (v := a5 + (1 : Int32)) (lv' := [(5, .int (a5 + (1 : Int32))), (4, .int b0), (0, .ref 67), (1, .int a1), (2, .int a2), (3, .int a3)]) X dX10_lookOn_90 rfl rfl (Nat.le_of_ble_eq_true rfl) rfl ?_
  refine zv_goto (tgt := 6) X dX10_lookOn_93 (by decide) ?_
  exact zv_pick X [2, 3, 4, 5, 1, 0] rfl (hk6 _ _ _ _ _ _ e)
set_option maxRecDepth 100000 in
set_option maxHeartbeats 4000000 in
theorem k_X10_lookOn_L81 {l : Launch} {D : va_G} {cy : Nat → ClassId} {S0 d : Nat} {J : zJ} (q : (Int32 × zHp)) (hd : 1 ≤ d) (X : zOK l D cy S0 d RX10 cX10_lookOn 7 (yX10_lookOn.name == "<init>") 117 117 (some .int) (zRT 117 zRF (some (.int q.1)) q.2) J) {k6 : Int32 → Int32 → Int32 → Int32 → Int32 → zHp → Option (Int32 × zHp)} (hk6 : ∀ (a1 : Int32) (a2 : Int32) (a3 : Int32) (a4 : Int32) (a5 : Int32) (h : zHp), k6 a1 a2 a3 a4 a5 h = some q → J 6 [(0, .ref 67), (1, .int a1), (2, .int a2), (3, .int a3), (4, .int a4), (5, .int a5)] [] 117 zRF h) : ∀ (a1 : Int32) (a2 : Int32) (a3 : Int32) (a5 : Int32) (h : zHp), s_X10_lookOn_L81 k6 a1 a2 a3 a5 h = some q → J 81 [(0, .ref 67), (1, .int a1), (2, .int a2), (3, .int a3), (5, .int a5)] [] 117 zRF h := by
  intro a1 a2 a3 a5 h e
  unfold s_X10_lookOn_L81 at e
  refine zv_iload X dX10_lookOn_81 rfl ?_
  refine zv_goto (tgt := 88) X dX10_lookOn_83 (by decide) ?_
  exact k_X10_lookOn_L88 q hd X hk6 _ _ _ _ _ _ e
set_option maxRecDepth 100000 in
set_option maxHeartbeats 4000000 in
theorem k_X10_lookOn_L86 {l : Launch} {D : va_G} {cy : Nat → ClassId} {S0 d : Nat} {J : zJ} (q : (Int32 × zHp)) (hd : 1 ≤ d) (X : zOK l D cy S0 d RX10 cX10_lookOn 7 (yX10_lookOn.name == "<init>") 117 117 (some .int) (zRT 117 zRF (some (.int q.1)) q.2) J) {k6 : Int32 → Int32 → Int32 → Int32 → Int32 → zHp → Option (Int32 × zHp)} (hk6 : ∀ (a1 : Int32) (a2 : Int32) (a3 : Int32) (a4 : Int32) (a5 : Int32) (h : zHp), k6 a1 a2 a3 a4 a5 h = some q → J 6 [(0, .ref 67), (1, .int a1), (2, .int a2), (3, .int a3), (4, .int a4), (5, .int a5)] [] 117 zRF h) : ∀ (a1 : Int32) (a2 : Int32) (a3 : Int32) (a4 : Int32) (a5 : Int32) (h : zHp), s_X10_lookOn_L86 k6 a1 a2 a3 a4 a5 h = some q → J 86 [(0, .ref 67), (1, .int a1), (2, .int a2), (3, .int a3), (4, .int a4), (5, .int a5)] [] 117 zRF h := by
  intro a1 a2 a3 a4 a5 h e
  unfold s_X10_lookOn_L86 at e
  refine zv_iload X dX10_lookOn_86 rfl ?_
  exact zv_pick X [0, 1, 2, 3, 5] rfl (k_X10_lookOn_L88 q hd X hk6 _ _ _ _ _ _ e)
set_option maxRecDepth 100000 in
set_option maxHeartbeats 4000000 in
theorem k_X10_lookOn_L52 {l : Launch} {D : va_G} {cy : Nat → ClassId} {S0 d : Nat} {J : zJ} (q : (Int32 × zHp)) (hd : 1 ≤ d) (X : zOK l D cy S0 d RX10 cX10_lookOn 7 (yX10_lookOn.name == "<init>") 117 117 (some .int) (zRT 117 zRF (some (.int q.1)) q.2) J) {k6 : Int32 → Int32 → Int32 → Int32 → Int32 → zHp → Option (Int32 × zHp)} (hk6 : ∀ (a1 : Int32) (a2 : Int32) (a3 : Int32) (a4 : Int32) (a5 : Int32) (h : zHp), k6 a1 a2 a3 a4 a5 h = some q → J 6 [(0, .ref 67), (1, .int a1), (2, .int a2), (3, .int a3), (4, .int a4), (5, .int a5)] [] 117 zRF h) : ∀ (a1 : Int32) (a2 : Int32) (a3 : Int32) (a4 : Int32) (a5 : Int32) (b0 : Int32) (h : zHp), s_X10_lookOn_L52 k6 a1 a2 a3 a4 a5 b0 h = some q → J 52 [(0, .ref 67), (1, .int a1), (2, .int a2), (3, .int a3), (4, .int a4), (5, .int a5)] [.int b0] 117 zRF h := by
  intro a1 a2 a3 a4 a5 b0 h e
  unfold s_X10_lookOn_L52 at e
  refine zv_istore (i := 6) (lv' := [(6, .int b0), (0, .ref 67), (1, .int a1), (2, .int a2), (3, .int a3), (4, .int a4), (5, .int a5)]) X dX10_lookOn_52 (Nat.le_of_ble_eq_true rfl) rfl ?_
  refine zv_iload X dX10_lookOn_54 rfl ?_
  refine zv_if_eq (tgt := 86) X dX10_lookOn_56 (by decide) (fun c1 => ?_) (fun c1 => ?_)
  · replace e := zit e c1
    exact zv_pick X [1, 2, 3, 4, 5, 6] rfl (k_X10_lookOn_L86 q hd X hk6 _ _ _ _ _ _ e)
  · replace e := zif e c1
    refine zv_iload X dX10_lookOn_59 rfl ?_
    refine zv_if_lt (tgt := 81) X dX10_lookOn_61 (by decide) (fun c2 => ?_) (fun c2 => ?_)
    · replace e := zit e c2
      exact zv_pick X [1, 2, 3, 4, 6] rfl (k_X10_lookOn_L81 q hd X hk6 _ _ _ _ _ e)
    · replace e := zif e c2
      refine zv_aload_n X dX10_lookOn_64 rfl rfl ?_
      refine zv_getR X zf_RX10_59 znt_a zk_67 zb_67 zr_67_20 dX10_lookOn_65 ?_
      refine zv_iload X dX10_lookOn_68 rfl ?_
      refine zb e (fun v3 gv3 e => ?_)
      refine zv_iald X zk_84 zl_84 zb_84 dX10_lookOn_70 gv3 ?_
      refine zv_aload_n X dX10_lookOn_71 rfl rfl ?_
      refine zv_getR X zf_RX10_59 znt_a zk_67 zb_67 zr_67_20 dX10_lookOn_72 ?_
      refine zv_iload X dX10_lookOn_75 rfl ?_
      refine zb e (fun v4 gv4 e => ?_)
      refine zv_iald X zk_84 zl_84 zb_84 dX10_lookOn_77 gv4 ?_
      refine zv_icmp_lt (tgt := 86) X dX10_lookOn_78 (by decide) (fun c5 => ?_) (fun c5 => ?_)
      · replace e := zit e c5
        exact zv_pick X [1, 2, 3, 4, 5, 6] rfl (k_X10_lookOn_L86 q hd X hk6 _ _ _ _ _ _ e)
      · replace e := zif e c5
        exact zv_pick X [1, 2, 3, 4, 6] rfl (k_X10_lookOn_L81 q hd X hk6 _ _ _ _ _ e)
set_option maxRecDepth 100000 in
set_option maxHeartbeats 4000000 in
theorem k_X10_lookOn_L51 {l : Launch} {D : va_G} {cy : Nat → ClassId} {S0 d : Nat} {J : zJ} (q : (Int32 × zHp)) (hd : 1 ≤ d) (X : zOK l D cy S0 d RX10 cX10_lookOn 7 (yX10_lookOn.name == "<init>") 117 117 (some .int) (zRT 117 zRF (some (.int q.1)) q.2) J) {k6 : Int32 → Int32 → Int32 → Int32 → Int32 → zHp → Option (Int32 × zHp)} (hk6 : ∀ (a1 : Int32) (a2 : Int32) (a3 : Int32) (a4 : Int32) (a5 : Int32) (h : zHp), k6 a1 a2 a3 a4 a5 h = some q → J 6 [(0, .ref 67), (1, .int a1), (2, .int a2), (3, .int a3), (4, .int a4), (5, .int a5)] [] 117 zRF h) : ∀ (a1 : Int32) (a2 : Int32) (a3 : Int32) (a4 : Int32) (a5 : Int32) (h : zHp), s_X10_lookOn_L51 k6 a1 a2 a3 a4 a5 h = some q → J 51 [(0, .ref 67), (1, .int a1), (2, .int a2), (3, .int a3), (4, .int a4), (5, .int a5)] [] 117 zRF h := by
  intro a1 a2 a3 a4 a5 h e
  unfold s_X10_lookOn_L51 at e
  refine zv_iconst (v := (0 : Int32)) X dX10_lookOn_51 zic_0 ?_
  exact k_X10_lookOn_L52 q hd X hk6 _ _ _ _ _ _ _ e
set_option maxRecDepth 100000 in
set_option maxHeartbeats 4000000 in
theorem k_X10_lookOn_L6 {l : Launch} {D : va_G} {cy : Nat → ClassId} {S0 d : Nat} {J : zJ} (q : (Int32 × zHp)) (hd : 1 ≤ d) (X : zOK l D cy S0 d RX10 cX10_lookOn 7 (yX10_lookOn.name == "<init>") 117 117 (some .int) (zRT 117 zRF (some (.int q.1)) q.2) J) : ∀ (f : Nat) (a1 : Int32) (a2 : Int32) (a3 : Int32) (a4 : Int32) (a5 : Int32) (h : zHp), s_X10_lookOn_L6 f a1 a2 a3 a4 a5 h = some q → J 6 [(0, .ref 67), (1, .int a1), (2, .int a2), (3, .int a3), (4, .int a4), (5, .int a5)] [] 117 zRF h := by
  intro f
  induction f with
  | zero => intro _ _ _ _ _ h e; exact absurd e (fun z => by cases z)
  | succ f ih =>
    intro a1 a2 a3 a4 a5 h e
    rw [s_X10_lookOn_L6] at e
    refine zv_iload X dX10_lookOn_6 rfl ?_
    refine zv_aload_n X dX10_lookOn_8 rfl rfl ?_
    refine zv_getI X zf_RX10_172 zk_67 zb_67 dX10_lookOn_9 ?_
    refine zv_icmp_ge (tgt := 96) X dX10_lookOn_12 (by decide) (fun c1 => ?_) (fun c1 => ?_)
    · replace e := zit e c1
      refine zv_iload X dX10_lookOn_96 rfl ?_
      exact zv_retI X e rfl dX10_lookOn_98
    · replace e := zif e c1
      refine zv_aload_n X dX10_lookOn_15 rfl rfl ?_
      refine zv_getR X zf_RX10_53 znt_a zk_67 zb_67 zr_67_18 dX10_lookOn_16 ?_
      refine zv_iload X dX10_lookOn_19 rfl ?_
      refine zb e (fun v2 gv2 e => ?_)
      refine zv_iald X zk_82 zl_82 zb_82 dX10_lookOn_21 gv2 ?_
      refine zv_iload_n X dX10_lookOn_22 rfl rfl ?_
      refine zv_icmp_ne (tgt := 51) X dX10_lookOn_23 (by decide) (fun c3 => ?_) (fun c3 => ?_)
      · replace e := zif e c3
        exact k_X10_lookOn_L51 q hd X ih _ _ _ _ _ _ e
      · replace e := zit e c3
        refine zv_aload_n X dX10_lookOn_26 rfl rfl ?_
        refine zv_getR X zf_RX10_59 znt_a zk_67 zb_67 zr_67_20 dX10_lookOn_27 ?_
        refine zv_iload X dX10_lookOn_30 rfl ?_
        refine zb e (fun v4 gv4 e => ?_)
        refine zv_iald X zk_84 zl_84 zb_84 dX10_lookOn_32 gv4 ?_
        refine zv_iload_n X dX10_lookOn_33 rfl rfl ?_
        refine zv_icmp_gt (tgt := 51) X dX10_lookOn_34 (by decide) (fun c5 => ?_) (fun c5 => ?_)
        · replace e := zit e c5
          exact k_X10_lookOn_L51 q hd X ih _ _ _ _ _ _ e
        · replace e := zif e c5
          refine zv_aload_n X dX10_lookOn_37 rfl rfl ?_
          refine zv_iload X dX10_lookOn_38 rfl ?_
          refine zv_iload_n X dX10_lookOn_40 rfl rfl ?_
          refine zb e (fun q6 gq6 e => ?_)
          refine zv_callV (stk := [.int a3, .int a5, .ref 67]) (as := [.int a5, .int a3]) (st := []) (k := 67) X zl_RX10_208 zm_X10_countsBy (k_X10_countsBy (d := d - 1) (by omega) gq6) (by omega) zb_67 (by rw [zk_67]; rfl) rfl rfl (Nat.le_of_ble_eq_true rfl) (Nat.le_refl _) rfl dX10_lookOn_41 ?_
          show J 44 [(0, .ref 67), (1, .int a1), (2, .int a2), (3, .int a3), (4, .int a4), (5, .int a5)] [.int q6.1] 117 zRF q6.2
          refine zv_if_eq (tgt := 51) X dX10_lookOn_44 (by decide) (fun c7 => ?_) (fun c7 => ?_)
          · replace e := zit e c7
            exact k_X10_lookOn_L51 q hd X ih _ _ _ _ _ _ e
          · replace e := zif e c7
            refine zv_iconst (v := (1 : Int32)) X dX10_lookOn_47 zic_1 ?_
            refine zv_goto (tgt := 52) X dX10_lookOn_48 (by decide) ?_
            exact k_X10_lookOn_L52 q hd X ih _ _ _ _ _ _ _ e
set_option maxRecDepth 100000 in
set_option maxHeartbeats 4000000 in
theorem k_X10_lookOn {l : Launch} {D : va_G} {cy : Nat → ClassId} {S0 d : Nat} (hd : 1 ≤ d) {a1 : Int32} {a2 : Int32} {a3 : Int32} {h : zHp} {q : (Int32 × zHp)} (e : s_X10_lookOn a1 a2 a3 h = some q) : zCT l D cy S0 d yX10_lookOn cX10_lookOn 7 (some .int) [.ref 67, .int a1, .int a2, .int a3] 117 zRF h (some (.int q.1)) 117 zRF q.2 := by
  unfold s_X10_lookOn at e
  refine zCT_of RX10 rfl zm_X10_lookOn (Nat.le_refl _) (Nat.le_of_ble_eq_true rfl) (fun J X => ?_)
  show J 0 [(0, .ref 67), (1, .int a1), (2, .int a2), (3, .int a3)] [] 117 zRF h
  refine zv_iconst (v := (-1 : Int32)) X dX10_lookOn_0 zic_m1 ?_
  refine zv_istore (i := 4) (lv' := [(4, .int (-1 : Int32)), (0, .ref 67), (1, .int a1), (2, .int a2), (3, .int a3)]) X dX10_lookOn_1 (Nat.le_of_ble_eq_true rfl) rfl ?_
  refine zv_iconst (v := (0 : Int32)) X dX10_lookOn_3 zic_0 ?_
  refine zv_istore (i := 5) (lv' := [(5, .int (0 : Int32)), (4, .int (-1 : Int32)), (0, .ref 67), (1, .int a1), (2, .int a2), (3, .int a3)]) X dX10_lookOn_4 (Nat.le_of_ble_eq_true rfl) rfl ?_
  exact zv_pick X [2, 3, 4, 5, 1, 0] rfl (k_X10_lookOn_L6 q hd X _ _ _ _ _ _ _ e)
-- X10_starBy
def s_X10_starBy_L56 (k6 : Int64 → Int64 → Int32 → Int32 → Int32 → zHp → Option (Int32 × zHp)) (a1 : Int64) (a3 : Int64) (a5 : Int32) (a7 : Int32) (b0 : Int32) (h : zHp) : Option (Int32 × zHp) :=
  k6 a1 a3 a5 b0 (a7 + (1 : Int32)) h
def s_X10_starBy_L49 (k6 : Int64 → Int64 → Int32 → Int32 → Int32 → zHp → Option (Int32 × zHp)) (a1 : Int64) (a3 : Int64) (a5 : Int32) (a7 : Int32) (h : zHp) : Option (Int32 × zHp) :=
  s_X10_starBy_L56 k6 a1 a3 a5 a7 a7 h
def s_X10_starBy_L54 (k6 : Int64 → Int64 → Int32 → Int32 → Int32 → zHp → Option (Int32 × zHp)) (a1 : Int64) (a3 : Int64) (a5 : Int32) (a6 : Int32) (a7 : Int32) (h : zHp) : Option (Int32 × zHp) :=
  s_X10_starBy_L56 k6 a1 a3 a5 a7 a6 h
def s_X10_starBy_L111 (k77 : Int64 → Int64 → Int32 → Int32 → Int32 → zHp → Option (Int32 × zHp)) (a1 : Int64) (a3 : Int64) (a6 : Int32) (a8 : Int32) (b0 : Int32) (h : zHp) : Option (Int32 × zHp) :=
  k77 a1 a3 a6 b0 (a8 + (-1 : Int32)) h
def s_X10_starBy_L77 : Nat → Int64 → Int64 → Int32 → Int32 → Int32 → zHp → Option (Int32 × zHp)
  | 0, _, _, _, _, _, _ => none
  | f + 1, a1, a3, a6, a7, a8, h =>
  if a8 < 0 then
    some (a7, h)
  else
    (zri h 91 40 (((4 : Int32) * a6) + a8)).bind fun v2 =>
    if (a3 * v2.toInt64) ≤ a1 then
      s_X10_starBy_L111 (s_X10_starBy_L77 f) a1 a3 a6 a8 a7 h
    else
      s_X10_starBy_L111 (s_X10_starBy_L77 f) a1 a3 a6 a8 ((5 : Int32) - a8) h
def s_X10_starBy_L6 : Nat → Int64 → Int64 → Int32 → Int32 → Int32 → zHp → Option (Int32 × zHp)
  | 0, _, _, _, _, _, _ => none
  | f + 1, a1, a3, a5, a6, a7, h =>
  if (h.1 67 26) ≤ a7 then
    if 0 ≤ a6 then
      s_X10_starBy_L77 zFU a1 a3 a6 (1 : Int32) (3 : Int32) h
    else
      some ((0 : Int32), h)
  else
    (zri h 90 10 a7).bind fun v3 =>
    if a5 < v3 then
      s_X10_starBy_L54 (s_X10_starBy_L6 f) a1 a3 a5 a6 a7 h
    else
      if a6 < 0 then
        s_X10_starBy_L49 (s_X10_starBy_L6 f) a1 a3 a5 a7 h
      else
        (zri h 90 10 a7).bind fun v6 =>
        (zri h 90 10 a6).bind fun v7 =>
        if v6 < v7 then
          s_X10_starBy_L54 (s_X10_starBy_L6 f) a1 a3 a5 a6 a7 h
        else
          s_X10_starBy_L49 (s_X10_starBy_L6 f) a1 a3 a5 a7 h
def s_X10_starBy (a1 : Int64) (a3 : Int64) (a5 : Int32) (h : zHp) : Option (Int32 × zHp) :=
  s_X10_starBy_L6 zFU a1 a3 a5 (-1 : Int32) (0 : Int32) h
set_option maxRecDepth 100000 in
set_option maxHeartbeats 4000000 in
theorem k_X10_starBy_L56 {l : Launch} {D : va_G} {cy : Nat → ClassId} {S0 d : Nat} {J : zJ} (q : (Int32 × zHp)) (hd : 0 ≤ d) (X : zOK l D cy S0 d RX10 cX10_starBy 9 (yX10_starBy.name == "<init>") 117 117 (some .int) (zRT 117 zRF (some (.int q.1)) q.2) J) {k6 : Int64 → Int64 → Int32 → Int32 → Int32 → zHp → Option (Int32 × zHp)} (hk6 : ∀ (a1 : Int64) (a3 : Int64) (a5 : Int32) (a6 : Int32) (a7 : Int32) (h : zHp), k6 a1 a3 a5 a6 a7 h = some q → J 6 [(0, .ref 67), (1, .long a1), (3, .long a3), (5, .int a5), (6, .int a6), (7, .int a7)] [] 117 zRF h) : ∀ (a1 : Int64) (a3 : Int64) (a5 : Int32) (a7 : Int32) (b0 : Int32) (h : zHp), s_X10_starBy_L56 k6 a1 a3 a5 a7 b0 h = some q → J 56 [(0, .ref 67), (1, .long a1), (3, .long a3), (5, .int a5), (7, .int a7)] [.int b0] 117 zRF h := by
  intro a1 a3 a5 a7 b0 h e
  unfold s_X10_starBy_L56 at e
  refine zv_istore (i := 6) (lv' := [(6, .int b0), (0, .ref 67), (1, .long a1), (3, .long a3), (5, .int a5), (7, .int a7)]) X dX10_starBy_56 (Nat.le_of_ble_eq_true rfl) rfl ?_
  refine zv_iinc (k := 5) (v := a7 + (1 : Int32)) (lv' := [(7, .int (a7 + (1 : Int32))), (6, .int b0), (0, .ref 67), (1, .long a1), (3, .long a3), (5, .int a5)]) X dX10_starBy_58 rfl rfl (Nat.le_of_ble_eq_true rfl) rfl ?_
  refine zv_goto (tgt := 6) X dX10_starBy_61 (by decide) ?_
  exact zv_pick X [2, 3, 4, 5, 1, 0] rfl (hk6 _ _ _ _ _ _ e)
set_option maxRecDepth 100000 in
set_option maxHeartbeats 4000000 in
theorem k_X10_starBy_L49 {l : Launch} {D : va_G} {cy : Nat → ClassId} {S0 d : Nat} {J : zJ} (q : (Int32 × zHp)) (hd : 0 ≤ d) (X : zOK l D cy S0 d RX10 cX10_starBy 9 (yX10_starBy.name == "<init>") 117 117 (some .int) (zRT 117 zRF (some (.int q.1)) q.2) J) {k6 : Int64 → Int64 → Int32 → Int32 → Int32 → zHp → Option (Int32 × zHp)} (hk6 : ∀ (a1 : Int64) (a3 : Int64) (a5 : Int32) (a6 : Int32) (a7 : Int32) (h : zHp), k6 a1 a3 a5 a6 a7 h = some q → J 6 [(0, .ref 67), (1, .long a1), (3, .long a3), (5, .int a5), (6, .int a6), (7, .int a7)] [] 117 zRF h) : ∀ (a1 : Int64) (a3 : Int64) (a5 : Int32) (a7 : Int32) (h : zHp), s_X10_starBy_L49 k6 a1 a3 a5 a7 h = some q → J 49 [(0, .ref 67), (1, .long a1), (3, .long a3), (5, .int a5), (7, .int a7)] [] 117 zRF h := by
  intro a1 a3 a5 a7 h e
  unfold s_X10_starBy_L49 at e
  refine zv_iload X dX10_starBy_49 rfl ?_
  refine zv_goto (tgt := 56) X dX10_starBy_51 (by decide) ?_
  exact k_X10_starBy_L56 q hd X hk6 _ _ _ _ _ _ e
set_option maxRecDepth 100000 in
set_option maxHeartbeats 4000000 in
theorem k_X10_starBy_L54 {l : Launch} {D : va_G} {cy : Nat → ClassId} {S0 d : Nat} {J : zJ} (q : (Int32 × zHp)) (hd : 0 ≤ d) (X : zOK l D cy S0 d RX10 cX10_starBy 9 (yX10_starBy.name == "<init>") 117 117 (some .int) (zRT 117 zRF (some (.int q.1)) q.2) J) {k6 : Int64 → Int64 → Int32 → Int32 → Int32 → zHp → Option (Int32 × zHp)} (hk6 : ∀ (a1 : Int64) (a3 : Int64) (a5 : Int32) (a6 : Int32) (a7 : Int32) (h : zHp), k6 a1 a3 a5 a6 a7 h = some q → J 6 [(0, .ref 67), (1, .long a1), (3, .long a3), (5, .int a5), (6, .int a6), (7, .int a7)] [] 117 zRF h) : ∀ (a1 : Int64) (a3 : Int64) (a5 : Int32) (a6 : Int32) (a7 : Int32) (h : zHp), s_X10_starBy_L54 k6 a1 a3 a5 a6 a7 h = some q → J 54 [(0, .ref 67), (1, .long a1), (3, .long a3), (5, .int a5), (6, .int a6), (7, .int a7)] [] 117 zRF h := by
  intro a1 a3 a5 a6 a7 h e
  unfold s_X10_starBy_L54 at e
  refine zv_iload X dX10_starBy_54 rfl ?_
  exact zv_pick X [0, 1, 2, 3, 5] rfl (k_X10_starBy_L56 q hd X hk6 _ _ _ _ _ _ e)
set_option maxRecDepth 100000 in
set_option maxHeartbeats 4000000 in
theorem k_X10_starBy_L111 {l : Launch} {D : va_G} {cy : Nat → ClassId} {S0 d : Nat} {J : zJ} (q : (Int32 × zHp)) (hd : 0 ≤ d) (X : zOK l D cy S0 d RX10 cX10_starBy 9 (yX10_starBy.name == "<init>") 117 117 (some .int) (zRT 117 zRF (some (.int q.1)) q.2) J) {k77 : Int64 → Int64 → Int32 → Int32 → Int32 → zHp → Option (Int32 × zHp)} (hk77 : ∀ (a1 : Int64) (a3 : Int64) (a6 : Int32) (a7 : Int32) (a8 : Int32) (h : zHp), k77 a1 a3 a6 a7 a8 h = some q → J 77 [(0, .ref 67), (1, .long a1), (3, .long a3), (6, .int a6), (7, .int a7), (8, .int a8)] [] 117 zRF h) : ∀ (a1 : Int64) (a3 : Int64) (a6 : Int32) (a8 : Int32) (b0 : Int32) (h : zHp), s_X10_starBy_L111 k77 a1 a3 a6 a8 b0 h = some q → J 111 [(0, .ref 67), (1, .long a1), (3, .long a3), (6, .int a6), (8, .int a8)] [.int b0] 117 zRF h := by
  intro a1 a3 a6 a8 b0 h e
  unfold s_X10_starBy_L111 at e
  refine zv_istore (i := 7) (lv' := [(7, .int b0), (0, .ref 67), (1, .long a1), (3, .long a3), (6, .int a6), (8, .int a8)]) X dX10_starBy_111 (Nat.le_of_ble_eq_true rfl) rfl ?_
  refine zv_iinc (k := 5) (v := a8 + (-1 : Int32)) (lv' := [(8, .int (a8 + (-1 : Int32))), (7, .int b0), (0, .ref 67), (1, .long a1), (3, .long a3), (6, .int a6)]) X dX10_starBy_113 rfl rfl (Nat.le_of_ble_eq_true rfl) rfl ?_
  refine zv_goto (tgt := 77) X dX10_starBy_116 (by decide) ?_
  exact zv_pick X [2, 3, 4, 5, 1, 0] rfl (hk77 _ _ _ _ _ _ e)
set_option maxRecDepth 100000 in
set_option maxHeartbeats 4000000 in
theorem k_X10_starBy_L77 {l : Launch} {D : va_G} {cy : Nat → ClassId} {S0 d : Nat} {J : zJ} (q : (Int32 × zHp)) (hd : 0 ≤ d) (X : zOK l D cy S0 d RX10 cX10_starBy 9 (yX10_starBy.name == "<init>") 117 117 (some .int) (zRT 117 zRF (some (.int q.1)) q.2) J) : ∀ (f : Nat) (a1 : Int64) (a3 : Int64) (a6 : Int32) (a7 : Int32) (a8 : Int32) (h : zHp), s_X10_starBy_L77 f a1 a3 a6 a7 a8 h = some q → J 77 [(0, .ref 67), (1, .long a1), (3, .long a3), (6, .int a6), (7, .int a7), (8, .int a8)] [] 117 zRF h := by
  intro f
  induction f with
  | zero => intro _ _ _ _ _ h e; exact absurd e (fun z => by cases z)
  | succ f ih =>
    intro a1 a3 a6 a7 a8 h e
    rw [s_X10_starBy_L77] at e
    refine zv_iload X dX10_starBy_77 rfl ?_
    refine zv_if_lt (tgt := 119) X dX10_starBy_79 (by decide) (fun c1 => ?_) (fun c1 => ?_)
    · replace e := zit e c1
      refine zv_iload X dX10_starBy_119 rfl ?_
      exact zv_retI X e rfl dX10_starBy_121
    · replace e := zif e c1
      refine zv_lload_n X dX10_starBy_82 rfl rfl ?_
      refine zv_lload_n X dX10_starBy_83 rfl rfl ?_
      refine zv_aload_n X dX10_starBy_84 rfl rfl ?_
      refine zv_getR X zf_RX10_80 znt_a zk_67 zb_67 zr_67_28 dX10_starBy_85 ?_
      refine zv_iconst (v := (4 : Int32)) X dX10_starBy_88 zic_4 ?_
      refine zv_iload X dX10_starBy_89 rfl ?_
      refine zv_imul X dX10_starBy_91 ?_
      refine zv_iload X dX10_starBy_92 rfl ?_
      refine zv_iadd X dX10_starBy_94 ?_
      refine zb e (fun v2 gv2 e => ?_)
      refine zv_iald X zk_91 zl_91 zb_91 dX10_starBy_95 gv2 ?_
      refine zv_i2l X dX10_starBy_96 ?_
      refine zv_lmul X dX10_starBy_97 ?_
      refine zv_lcmp_ge (tgt := 109) (pc2 := 102) X dX10_starBy_98 rfl dX10_starBy_99 (by decide) rfl (fun c3 => ?_) (fun c3 => ?_)
      · replace e := zit e c3
        refine zv_iload X dX10_starBy_109 rfl ?_
        exact zv_pick X [0, 1, 2, 3, 5] rfl (k_X10_starBy_L111 q hd X ih _ _ _ _ _ _ e)
      · replace e := zif e c3
        refine zv_iconst (v := (5 : Int32)) X dX10_starBy_102 zic_5 ?_
        refine zv_iload X dX10_starBy_103 rfl ?_
        refine zv_isub X dX10_starBy_105 ?_
        refine zv_goto (tgt := 111) X dX10_starBy_106 (by decide) ?_
        exact zv_pick X [0, 1, 2, 3, 5] rfl (k_X10_starBy_L111 q hd X ih _ _ _ _ _ _ e)
set_option maxRecDepth 100000 in
set_option maxHeartbeats 4000000 in
theorem k_X10_starBy_L6 {l : Launch} {D : va_G} {cy : Nat → ClassId} {S0 d : Nat} {J : zJ} (q : (Int32 × zHp)) (hd : 0 ≤ d) (X : zOK l D cy S0 d RX10 cX10_starBy 9 (yX10_starBy.name == "<init>") 117 117 (some .int) (zRT 117 zRF (some (.int q.1)) q.2) J) : ∀ (f : Nat) (a1 : Int64) (a3 : Int64) (a5 : Int32) (a6 : Int32) (a7 : Int32) (h : zHp), s_X10_starBy_L6 f a1 a3 a5 a6 a7 h = some q → J 6 [(0, .ref 67), (1, .long a1), (3, .long a3), (5, .int a5), (6, .int a6), (7, .int a7)] [] 117 zRF h := by
  intro f
  induction f with
  | zero => intro _ _ _ _ _ h e; exact absurd e (fun z => by cases z)
  | succ f ih =>
    intro a1 a3 a5 a6 a7 h e
    rw [s_X10_starBy_L6] at e
    refine zv_iload X dX10_starBy_6 rfl ?_
    refine zv_aload_n X dX10_starBy_8 rfl rfl ?_
    refine zv_getI X zf_RX10_205 zk_67 zb_67 dX10_starBy_9 ?_
    refine zv_icmp_ge (tgt := 64) X dX10_starBy_12 (by decide) (fun c1 => ?_) (fun c1 => ?_)
    · replace e := zit e c1
      refine zv_iload X dX10_starBy_64 rfl ?_
      refine zv_if_ge (tgt := 71) X dX10_starBy_66 (by decide) (fun c2 => ?_) (fun c2 => ?_)
      · replace e := zit e c2
        refine zv_iconst (v := (1 : Int32)) X dX10_starBy_71 zic_1 ?_
        refine zv_istore (i := 7) (lv' := [(7, .int (1 : Int32)), (0, .ref 67), (1, .long a1), (3, .long a3), (5, .int a5), (6, .int a6)]) X dX10_starBy_72 (Nat.le_of_ble_eq_true rfl) rfl ?_
        refine zv_iconst (v := (3 : Int32)) X dX10_starBy_74 zic_3 ?_
        refine zv_istore (i := 8) (lv' := [(8, .int (3 : Int32)), (7, .int (1 : Int32)), (0, .ref 67), (1, .long a1), (3, .long a3), (5, .int a5), (6, .int a6)]) X dX10_starBy_75 (Nat.le_of_ble_eq_true rfl) rfl ?_
        exact zv_pick X [2, 3, 4, 6, 1, 0] rfl (k_X10_starBy_L77 q hd X _ _ _ _ _ _ _ e)
      · replace e := zif e c2
        refine zv_iconst (v := (0 : Int32)) X dX10_starBy_69 zic_0 ?_
        exact zv_retI X e rfl dX10_starBy_70
    · replace e := zif e c1
      refine zv_aload_n X dX10_starBy_15 rfl rfl ?_
      refine zv_getR X zf_RX10_77 znt_a zk_67 zb_67 zr_67_27 dX10_starBy_16 ?_
      refine zv_iload X dX10_starBy_19 rfl ?_
      refine zb e (fun v3 gv3 e => ?_)
      refine zv_iald X zk_90 zl_90 zb_90 dX10_starBy_21 gv3 ?_
      refine zv_iload X dX10_starBy_22 rfl ?_
      refine zv_icmp_gt (tgt := 54) X dX10_starBy_24 (by decide) (fun c4 => ?_) (fun c4 => ?_)
      · replace e := zit e c4
        exact k_X10_starBy_L54 q hd X ih _ _ _ _ _ _ e
      · replace e := zif e c4
        refine zv_iload X dX10_starBy_27 rfl ?_
        refine zv_if_lt (tgt := 49) X dX10_starBy_29 (by decide) (fun c5 => ?_) (fun c5 => ?_)
        · replace e := zit e c5
          exact zv_pick X [0, 1, 2, 3, 5] rfl (k_X10_starBy_L49 q hd X ih _ _ _ _ _ e)
        · replace e := zif e c5
          refine zv_aload_n X dX10_starBy_32 rfl rfl ?_
          refine zv_getR X zf_RX10_77 znt_a zk_67 zb_67 zr_67_27 dX10_starBy_33 ?_
          refine zv_iload X dX10_starBy_36 rfl ?_
          refine zb e (fun v6 gv6 e => ?_)
          refine zv_iald X zk_90 zl_90 zb_90 dX10_starBy_38 gv6 ?_
          refine zv_aload_n X dX10_starBy_39 rfl rfl ?_
          refine zv_getR X zf_RX10_77 znt_a zk_67 zb_67 zr_67_27 dX10_starBy_40 ?_
          refine zv_iload X dX10_starBy_43 rfl ?_
          refine zb e (fun v7 gv7 e => ?_)
          refine zv_iald X zk_90 zl_90 zb_90 dX10_starBy_45 gv7 ?_
          refine zv_icmp_lt (tgt := 54) X dX10_starBy_46 (by decide) (fun c8 => ?_) (fun c8 => ?_)
          · replace e := zit e c8
            exact k_X10_starBy_L54 q hd X ih _ _ _ _ _ _ e
          · replace e := zif e c8
            exact zv_pick X [0, 1, 2, 3, 5] rfl (k_X10_starBy_L49 q hd X ih _ _ _ _ _ e)
set_option maxRecDepth 100000 in
set_option maxHeartbeats 4000000 in
theorem k_X10_starBy {l : Launch} {D : va_G} {cy : Nat → ClassId} {S0 d : Nat} (hd : 0 ≤ d) {a1 : Int64} {a3 : Int64} {a5 : Int32} {h : zHp} {q : (Int32 × zHp)} (e : s_X10_starBy a1 a3 a5 h = some q) : zCT l D cy S0 d yX10_starBy cX10_starBy 9 (some .int) [.ref 67, .long a1, .long a3, .int a5] 117 zRF h (some (.int q.1)) 117 zRF q.2 := by
  unfold s_X10_starBy at e
  refine zCT_of RX10 rfl zm_X10_starBy (Nat.le_refl _) (Nat.le_of_ble_eq_true rfl) (fun J X => ?_)
  show J 0 [(0, .ref 67), (1, .long a1), (3, .long a3), (5, .int a5)] [] 117 zRF h
  refine zv_iconst (v := (-1 : Int32)) X dX10_starBy_0 zic_m1 ?_
  refine zv_istore (i := 6) (lv' := [(6, .int (-1 : Int32)), (0, .ref 67), (1, .long a1), (3, .long a3), (5, .int a5)]) X dX10_starBy_1 (Nat.le_of_ble_eq_true rfl) rfl ?_
  refine zv_iconst (v := (0 : Int32)) X dX10_starBy_3 zic_0 ?_
  refine zv_istore (i := 7) (lv' := [(7, .int (0 : Int32)), (6, .int (-1 : Int32)), (0, .ref 67), (1, .long a1), (3, .long a3), (5, .int a5)]) X dX10_starBy_4 (Nat.le_of_ble_eq_true rfl) rfl ?_
  exact zv_pick X [2, 3, 4, 5, 1, 0] rfl (k_X10_starBy_L6 q hd X _ _ _ _ _ _ _ e)
-- X10_starOf
def s_X10_starOf_L44 (b0 : Int32) (h : zHp) : Option (Int32 × zHp) :=
  some (b0, h)
def s_X10_starOf (a1 : Int32) (a2 : Int32) (a3 : Int32) (h : zHp) : Option (Int32 × zHp) :=
  (s_X10_lookOn a1 a2 a3 h).bind fun q1 =>
  if 0 ≤ q1.1 then
    (zri q1.2 84 80 q1.1).bind fun v3 =>
    (s_X10_scoreOf q1.1 v3 q1.2).bind fun q4 =>
    (zri q4.2 84 80 q1.1).bind fun v5 =>
    (s_X10_starBy q4.1.toInt64 (1 : Int64) v5 q4.2).bind fun q6 =>
    s_X10_starOf_L44 q6.1 q6.2
  else
    s_X10_starOf_L44 (0 : Int32) q1.2
set_option maxRecDepth 100000 in
set_option maxHeartbeats 4000000 in
theorem k_X10_starOf_L44 {l : Launch} {D : va_G} {cy : Nat → ClassId} {S0 d : Nat} {J : zJ} (q : (Int32 × zHp)) (hd : 2 ≤ d) (X : zOK l D cy S0 d RX10 cX10_starOf 5 (yX10_starOf.name == "<init>") 117 117 (some .int) (zRT 117 zRF (some (.int q.1)) q.2) J) : ∀ (b0 : Int32) (h : zHp), s_X10_starOf_L44 b0 h = some q → J 44 [] [.int b0] 117 zRF h := by
  intro b0 h e
  unfold s_X10_starOf_L44 at e
  exact zv_retI X e rfl dX10_starOf_44
set_option maxRecDepth 100000 in
set_option maxHeartbeats 4000000 in
theorem k_X10_starOf {l : Launch} {D : va_G} {cy : Nat → ClassId} {S0 d : Nat} (hd : 2 ≤ d) {a1 : Int32} {a2 : Int32} {a3 : Int32} {h : zHp} {q : (Int32 × zHp)} (e : s_X10_starOf a1 a2 a3 h = some q) : zCT l D cy S0 d yX10_starOf cX10_starOf 5 (some .int) [.ref 67, .int a1, .int a2, .int a3] 117 zRF h (some (.int q.1)) 117 zRF q.2 := by
  unfold s_X10_starOf at e
  refine zCT_of RX10 rfl zm_X10_starOf (Nat.le_refl _) (Nat.le_of_ble_eq_true rfl) (fun J X => ?_)
  show J 0 [(0, .ref 67), (1, .int a1), (2, .int a2), (3, .int a3)] [] 117 zRF h
  refine zv_aload_n X dX10_starOf_0 rfl rfl ?_
  refine zv_iload_n X dX10_starOf_1 rfl rfl ?_
  refine zv_iload_n X dX10_starOf_2 rfl rfl ?_
  refine zv_iload_n X dX10_starOf_3 rfl rfl ?_
  refine zb e (fun q1 gq1 e => ?_)
  refine zv_callV (stk := [.int a3, .int a2, .int a1, .ref 67]) (as := [.int a1, .int a2, .int a3]) (st := []) (k := 67) X zl_RX10_212 zm_X10_lookOn (k_X10_lookOn (d := d - 1) (by omega) gq1) (by omega) zb_67 (by rw [zk_67]; rfl) rfl rfl (Nat.le_of_ble_eq_true rfl) (Nat.le_refl _) rfl dX10_starOf_4 ?_
  show J 7 [(0, .ref 67), (1, .int a1), (2, .int a2), (3, .int a3)] [.int q1.1] 117 zRF q1.2
  refine zv_istore (i := 4) (lv' := [(4, .int q1.1), (0, .ref 67), (1, .int a1), (2, .int a2), (3, .int a3)]) X dX10_starOf_7 (Nat.le_of_ble_eq_true rfl) rfl ?_
  refine zv_iload X dX10_starOf_9 rfl ?_
  refine zv_if_ge (tgt := 18) X dX10_starOf_11 (by decide) (fun c2 => ?_) (fun c2 => ?_)
  · replace e := zit e c2
    refine zv_aload_n X dX10_starOf_18 rfl rfl ?_
    refine zv_aload_n X dX10_starOf_19 rfl rfl ?_
    refine zv_iload X dX10_starOf_20 rfl ?_
    refine zv_aload_n X dX10_starOf_22 rfl rfl ?_
    refine zv_getR X zf_RX10_59 znt_a zk_67 zb_67 zr_67_20 dX10_starOf_23 ?_
    refine zv_iload X dX10_starOf_26 rfl ?_
    refine zb e (fun v3 gv3 e => ?_)
    refine zv_iald X zk_84 zl_84 zb_84 dX10_starOf_28 gv3 ?_
    refine zb e (fun q4 gq4 e => ?_)
    refine zv_callV (stk := [.int v3, .int q1.1, .ref 67, .ref 67]) (as := [.int q1.1, .int v3]) (st := [.ref 67]) (k := 67) X zl_RX10_202 zm_X10_scoreOf (k_X10_scoreOf (d := d - 1) (by omega) gq4) (by omega) zb_67 (by rw [zk_67]; rfl) rfl rfl (Nat.le_of_ble_eq_true rfl) (Nat.le_refl _) rfl dX10_starOf_29 ?_
    show J 32 [(4, .int q1.1), (0, .ref 67), (1, .int a1), (2, .int a2), (3, .int a3)] [.int q4.1, .ref 67] 117 zRF q4.2
    refine zv_i2l X dX10_starOf_32 ?_
    refine zv_lconst (v := (1 : Int64)) X dX10_starOf_33 rfl ?_
    refine zv_aload_n X dX10_starOf_34 rfl rfl ?_
    refine zv_getR X zf_RX10_59 znt_a zk_67 zb_67 zr_67_20 dX10_starOf_35 ?_
    refine zv_iload X dX10_starOf_38 rfl ?_
    refine zb e (fun v5 gv5 e => ?_)
    refine zv_iald X zk_84 zl_84 zb_84 dX10_starOf_40 gv5 ?_
    refine zb e (fun q6 gq6 e => ?_)
    refine zv_callV (stk := [.int v5, .long (1 : Int64), .long q4.1.toInt64, .ref 67]) (as := [.long q4.1.toInt64, .long (1 : Int64), .int v5]) (st := []) (k := 67) X zl_RX10_216 zm_X10_starBy (k_X10_starBy (d := d - 1) (by omega) gq6) (by omega) zb_67 (by rw [zk_67]; rfl) rfl rfl (Nat.le_of_ble_eq_true rfl) (Nat.le_refl _) rfl dX10_starOf_41 ?_
    show J 44 [(4, .int q1.1), (0, .ref 67), (1, .int a1), (2, .int a2), (3, .int a3)] [.int q6.1] 117 zRF q6.2
    exact zv_pick X [] rfl (k_X10_starOf_L44 q hd X _ _ e)
  · replace e := zif e c2
    refine zv_iconst (v := (0 : Int32)) X dX10_starOf_14 zic_0 ?_
    refine zv_goto (tgt := 44) X dX10_starOf_15 (by decide) ?_
    exact zv_pick X [] rfl (k_X10_starOf_L44 q hd X _ _ e)
-- X10_star
def s_X10_star_L22  (h : zHp) : Option (Int32 × zHp) :=
  (s_X10_refuse (-4 : Int32) h).bind fun q1 =>
  some (q1.1, q1.2)
def s_X10_star_L59 (b0 : Int32) (h : zHp) : Option (Int32 × zHp) :=
  some (b0, h)
def s_X10_star_L43  (h : zHp) : Option (Int32 × zHp) :=
  (s_X10_refuse (-6 : Int32) h).bind fun q1 =>
  s_X10_star_L59 q1.1 q1.2
def s_X10_star (a1 : Int32) (a2 : Int32) (a3 : Int32) (h : zHp) : Option (Int32 × zHp) :=
  (s_X10_isKitchen a1 h).bind fun q1 =>
  if q1.1 = 0 then
    (s_X10_refuse (-1 : Int32) q1.2).bind fun q8 =>
    some (q8.1, q8.2)
  else
    if a2 < 0 then
      s_X10_star_L22 q1.2
    else
      if 0 ≤ a3 then
        if (1500 : Int32) < a2 then
          s_X10_star_L43 q1.2
        else
          if a3 ≤ (1500 : Int32) then
            (s_X10_starOf a1 a2 a3 q1.2).bind fun q7 =>
            s_X10_star_L59 q7.1 q7.2
          else
            s_X10_star_L43 q1.2
      else
        s_X10_star_L22 q1.2
set_option maxRecDepth 100000 in
set_option maxHeartbeats 4000000 in
theorem k_X10_star_L22 {l : Launch} {D : va_G} {cy : Nat → ClassId} {S0 d : Nat} {J : zJ} (q : (Int32 × zHp)) (hd : 3 ≤ d) (X : zOK l D cy S0 d RX10 cX10_star 4 (yX10_star.name == "<init>") 117 117 (some .int) (zRT 117 zRF (some (.int q.1)) q.2) J) : ∀  (h : zHp), s_X10_star_L22  h = some q → J 22 [(0, .ref 67)] [] 117 zRF h := by
  intro  h e
  unfold s_X10_star_L22 at e
  refine zv_aload_n X dX10_star_22 rfl rfl ?_
  refine zv_bipush (v := (-4 : Int32)) X dX10_star_23 zbp_m4 ?_
  refine zb e (fun q1 gq1 e => ?_)
  refine zv_callV (stk := [.int (-4 : Int32), .ref 67]) (as := [.int (-4 : Int32)]) (st := []) (k := 67) X zl_RX10_175 zm_X10_refuse (k_X10_refuse (d := d - 1) (by omega) gq1) (by omega) zb_67 (by rw [zk_67]; rfl) rfl rfl (Nat.le_of_ble_eq_true rfl) (Nat.le_refl _) rfl dX10_star_25 ?_
  show J 28 [(0, .ref 67)] [.int q1.1] 117 zRF q1.2
  exact zv_retI X e rfl dX10_star_28
set_option maxRecDepth 100000 in
set_option maxHeartbeats 4000000 in
theorem k_X10_star_L59 {l : Launch} {D : va_G} {cy : Nat → ClassId} {S0 d : Nat} {J : zJ} (q : (Int32 × zHp)) (hd : 3 ≤ d) (X : zOK l D cy S0 d RX10 cX10_star 4 (yX10_star.name == "<init>") 117 117 (some .int) (zRT 117 zRF (some (.int q.1)) q.2) J) : ∀ (b0 : Int32) (h : zHp), s_X10_star_L59 b0 h = some q → J 59 [] [.int b0] 117 zRF h := by
  intro b0 h e
  unfold s_X10_star_L59 at e
  exact zv_retI X e rfl dX10_star_59
set_option maxRecDepth 100000 in
set_option maxHeartbeats 4000000 in
theorem k_X10_star_L43 {l : Launch} {D : va_G} {cy : Nat → ClassId} {S0 d : Nat} {J : zJ} (q : (Int32 × zHp)) (hd : 3 ≤ d) (X : zOK l D cy S0 d RX10 cX10_star 4 (yX10_star.name == "<init>") 117 117 (some .int) (zRT 117 zRF (some (.int q.1)) q.2) J) : ∀  (h : zHp), s_X10_star_L43  h = some q → J 43 [(0, .ref 67)] [] 117 zRF h := by
  intro  h e
  unfold s_X10_star_L43 at e
  refine zv_aload_n X dX10_star_43 rfl rfl ?_
  refine zv_bipush (v := (-6 : Int32)) X dX10_star_44 zbp_m6 ?_
  refine zb e (fun q1 gq1 e => ?_)
  refine zv_callV (stk := [.int (-6 : Int32), .ref 67]) (as := [.int (-6 : Int32)]) (st := []) (k := 67) X zl_RX10_175 zm_X10_refuse (k_X10_refuse (d := d - 1) (by omega) gq1) (by omega) zb_67 (by rw [zk_67]; rfl) rfl rfl (Nat.le_of_ble_eq_true rfl) (Nat.le_refl _) rfl dX10_star_46 ?_
  show J 49 [(0, .ref 67)] [.int q1.1] 117 zRF q1.2
  refine zv_goto (tgt := 59) X dX10_star_49 (by decide) ?_
  exact zv_pick X [] rfl (k_X10_star_L59 q hd X _ _ e)
set_option maxRecDepth 100000 in
set_option maxHeartbeats 4000000 in
theorem k_X10_star {l : Launch} {D : va_G} {cy : Nat → ClassId} {S0 d : Nat} (hd : 3 ≤ d) {a1 : Int32} {a2 : Int32} {a3 : Int32} {h : zHp} {q : (Int32 × zHp)} (e : s_X10_star a1 a2 a3 h = some q) : zCT l D cy S0 d yX10_star cX10_star 4 (some .int) [.ref 67, .int a1, .int a2, .int a3] 117 zRF h (some (.int q.1)) 117 zRF q.2 := by
  unfold s_X10_star at e
  refine zCT_of RX10 rfl zm_X10_star (Nat.le_refl _) (Nat.le_of_ble_eq_true rfl) (fun J X => ?_)
  show J 0 [(0, .ref 67), (1, .int a1), (2, .int a2), (3, .int a3)] [] 117 zRF h
  refine zv_aload_n X dX10_star_0 rfl rfl ?_
  refine zv_iload_n X dX10_star_1 rfl rfl ?_
  refine zb e (fun q1 gq1 e => ?_)
  refine zv_callV (stk := [.int a1, .ref 67]) (as := [.int a1]) (st := []) (k := 67) X zl_RX10_196 zm_X10_isKitchen (k_X10_isKitchen (d := d - 1) (by omega) gq1) (by omega) zb_67 (by rw [zk_67]; rfl) rfl rfl (Nat.le_of_ble_eq_true rfl) (Nat.le_refl _) rfl dX10_star_2 ?_
  show J 5 [(0, .ref 67), (1, .int a1), (2, .int a2), (3, .int a3)] [.int q1.1] 117 zRF q1.2
  refine zv_if_ne (tgt := 14) X dX10_star_5 (by decide) (fun c2 => ?_) (fun c2 => ?_)
  · replace e := zif e c2
    refine zv_iload_n X dX10_star_14 rfl rfl ?_
    refine zv_if_lt (tgt := 22) X dX10_star_15 (by decide) (fun c3 => ?_) (fun c3 => ?_)
    · replace e := zit e c3
      exact zv_pick X [0] rfl (k_X10_star_L22 q hd X  _ e)
    · replace e := zif e c3
      refine zv_iload_n X dX10_star_18 rfl rfl ?_
      refine zv_if_ge (tgt := 29) X dX10_star_19 (by decide) (fun c4 => ?_) (fun c4 => ?_)
      · replace e := zit e c4
        refine zv_iload_n X dX10_star_29 rfl rfl ?_
        refine zv_sipush (v := (1500 : Int32)) X dX10_star_30 zsp_1500 ?_
        refine zv_icmp_gt (tgt := 43) X dX10_star_33 (by decide) (fun c5 => ?_) (fun c5 => ?_)
        · replace e := zit e c5
          exact zv_pick X [0] rfl (k_X10_star_L43 q hd X  _ e)
        · replace e := zif e c5
          refine zv_iload_n X dX10_star_36 rfl rfl ?_
          refine zv_sipush (v := (1500 : Int32)) X dX10_star_37 zsp_1500 ?_
          refine zv_icmp_le (tgt := 52) X dX10_star_40 (by decide) (fun c6 => ?_) (fun c6 => ?_)
          · replace e := zit e c6
            refine zv_aload_n X dX10_star_52 rfl rfl ?_
            refine zv_iload_n X dX10_star_53 rfl rfl ?_
            refine zv_iload_n X dX10_star_54 rfl rfl ?_
            refine zv_iload_n X dX10_star_55 rfl rfl ?_
            refine zb e (fun q7 gq7 e => ?_)
            refine zv_callV (stk := [.int a3, .int a2, .int a1, .ref 67]) (as := [.int a1, .int a2, .int a3]) (st := []) (k := 67) X zl_RX10_220 zm_X10_starOf (k_X10_starOf (d := d - 1) (by omega) gq7) (by omega) zb_67 (by rw [zk_67]; rfl) rfl rfl (Nat.le_of_ble_eq_true rfl) (Nat.le_refl _) rfl dX10_star_56 ?_
            show J 59 [(0, .ref 67), (1, .int a1), (2, .int a2), (3, .int a3)] [.int q7.1] 117 zRF q7.2
            exact zv_pick X [] rfl (k_X10_star_L59 q hd X _ _ e)
          · replace e := zif e c6
            exact zv_pick X [0] rfl (k_X10_star_L43 q hd X  _ e)
      · replace e := zif e c4
        exact zv_pick X [0] rfl (k_X10_star_L22 q hd X  _ e)
  · replace e := zit e c2
    refine zv_aload_n X dX10_star_8 rfl rfl ?_
    refine zv_iconst (v := (-1 : Int32)) X dX10_star_9 zic_m1 ?_
    refine zb e (fun q8 gq8 e => ?_)
    refine zv_callV (stk := [.int (-1 : Int32), .ref 67]) (as := [.int (-1 : Int32)]) (st := []) (k := 67) X zl_RX10_175 zm_X10_refuse (k_X10_refuse (d := d - 1) (by omega) gq8) (by omega) zb_67 (by rw [zk_67]; rfl) rfl rfl (Nat.le_of_ble_eq_true rfl) (Nat.le_refl _) rfl dX10_star_10 ?_
    show J 13 [(0, .ref 67), (1, .int a1), (2, .int a2), (3, .int a3)] [.int q8.1] 117 zRF q8.2
    exact zv_retI X e rfl dX10_star_13
-- X4_changeShown
def s_X4_changeShown (a1 : Int32) (a2 : Int32) (h : zHp) : Option (Int32 × zHp) :=
  (zri h 19 20 a1).bind fun v1 =>
  (zui h 19 20 a1 a2).bind fun h2 =>
  some (v1, h2)
set_option maxRecDepth 100000 in
set_option maxHeartbeats 4000000 in
theorem k_X4_changeShown {l : Launch} {D : va_G} {cy : Nat → ClassId} {S0 d : Nat} (hd : 0 ≤ d) {a1 : Int32} {a2 : Int32} {h : zHp} {q : (Int32 × zHp)} (e : s_X4_changeShown a1 a2 h = some q) : zCT l D cy S0 d yX4_changeShown cX4_changeShown 4 (some .int) [.ref 13, .int a1, .int a2] 117 zRF h (some (.int q.1)) 117 zRF q.2 := by
  unfold s_X4_changeShown at e
  refine zCT_of RX4 rfl zm_X4_changeShown (Nat.le_refl _) (Nat.le_of_ble_eq_true rfl) (fun J X => ?_)
  show J 0 [(0, .ref 13), (1, .int a1), (2, .int a2)] [] 117 zRF h
  refine zv_aload_n X dX4_changeShown_0 rfl rfl ?_
  refine zv_getR X zf_RX4_27 znt_a zk_13 zb_13 zr_13_5 dX4_changeShown_1 ?_
  refine zv_iload_n X dX4_changeShown_4 rfl rfl ?_
  refine zb e (fun v1 gv1 e => ?_)
  refine zv_iald X zk_19 zl_19 zb_19 dX4_changeShown_5 gv1 ?_
  refine zv_istore_n (i := 3) (lv' := [(3, .int v1), (0, .ref 13), (1, .int a1), (2, .int a2)]) X dX4_changeShown_6 rfl (Nat.le_of_ble_eq_true rfl) rfl ?_
  refine zv_aload_n X dX4_changeShown_7 rfl rfl ?_
  refine zv_getR X zf_RX4_27 znt_a zk_13 zb_13 zr_13_5 dX4_changeShown_8 ?_
  refine zv_iload_n X dX4_changeShown_11 rfl rfl ?_
  refine zv_iload_n X dX4_changeShown_12 rfl rfl ?_
  refine zb e (fun h2 gh2 e => ?_)
  refine zv_iast X zk_19 zl_19 zb_19 dX4_changeShown_13 gh2 ?_
  refine zv_iload_n X dX4_changeShown_14 rfl rfl ?_
  exact zv_retI X e rfl dX4_changeShown_15
-- X9_show
def s_X9_show (a1 : Int32) (a2 : Int32) (h : zHp) : Option (Int32 × zHp) :=
  (s_X4_has a1 h).bind fun q1 =>
  if q1.1 = 0 then
    (s_X9_refused (-1 : Int32) q1.2).bind fun q8 =>
    some (q8.1, q8.2)
  else
    if 0 ≤ a2 then
      if a2 ≤ (5 : Int32) then
        (s_X4_changeShown a1 a2 q1.2).bind fun q5 =>
        some (q5.1, q5.2)
      else
        (s_X9_refused (-6 : Int32) q1.2).bind fun q6 =>
        some (q6.1, q6.2)
    else
      (s_X9_refused (-4 : Int32) q1.2).bind fun q7 =>
      some (q7.1, q7.2)
set_option maxRecDepth 100000 in
set_option maxHeartbeats 4000000 in
theorem k_X9_show {l : Launch} {D : va_G} {cy : Nat → ClassId} {S0 d : Nat} (hd : 1 ≤ d) {a1 : Int32} {a2 : Int32} {h : zHp} {q : (Int32 × zHp)} (e : s_X9_show a1 a2 h = some q) : zCT l D cy S0 d yX9_show cX9_show 3 (some .int) [.ref 0, .int a1, .int a2] 117 zRF h (some (.int q.1)) 117 zRF q.2 := by
  unfold s_X9_show at e
  refine zCT_of RX9 rfl zm_X9_show (Nat.le_refl _) (Nat.le_of_ble_eq_true rfl) (fun J X => ?_)
  show J 0 [(0, .ref 0), (1, .int a1), (2, .int a2)] [] 117 zRF h
  refine zv_aload_n X dX9_show_0 rfl rfl ?_
  refine zv_getR X zf_RX9_36 znt_o zk_0 zb_0 zr_0_6 dX9_show_1 ?_
  refine zv_iload_n X dX9_show_4 rfl rfl ?_
  refine zb e (fun q1 gq1 e => ?_)
  refine zv_callV (stk := [.int a1, .ref 13]) (as := [.int a1]) (st := []) (k := 13) X zl_RX9_146 zm_X4_has (k_X4_has (d := d - 1) (by omega) gq1) (by omega) zb_13 (by rw [zk_13]; rfl) rfl rfl (Nat.le_of_ble_eq_true rfl) (Nat.le_refl _) rfl dX9_show_5 ?_
  show J 8 [(0, .ref 0), (1, .int a1), (2, .int a2)] [.int q1.1] 117 zRF q1.2
  refine zv_if_ne (tgt := 17) X dX9_show_8 (by decide) (fun c2 => ?_) (fun c2 => ?_)
  · replace e := zif e c2
    refine zv_iload_n X dX9_show_17 rfl rfl ?_
    refine zv_if_ge (tgt := 28) X dX9_show_18 (by decide) (fun c3 => ?_) (fun c3 => ?_)
    · replace e := zit e c3
      refine zv_iload_n X dX9_show_28 rfl rfl ?_
      refine zv_iconst (v := (5 : Int32)) X dX9_show_29 zic_5 ?_
      refine zv_icmp_le (tgt := 40) X dX9_show_30 (by decide) (fun c4 => ?_) (fun c4 => ?_)
      · replace e := zit e c4
        refine zv_aload_n X dX9_show_40 rfl rfl ?_
        refine zv_getR X zf_RX9_36 znt_o zk_0 zb_0 zr_0_6 dX9_show_41 ?_
        refine zv_iload_n X dX9_show_44 rfl rfl ?_
        refine zv_iload_n X dX9_show_45 rfl rfl ?_
        refine zb e (fun q5 gq5 e => ?_)
        refine zv_callV (stk := [.int a2, .int a1, .ref 13]) (as := [.int a1, .int a2]) (st := []) (k := 13) X zl_RX9_196 zm_X4_changeShown (k_X4_changeShown (d := d - 1) (by omega) gq5) (by omega) zb_13 (by rw [zk_13]; rfl) rfl rfl (Nat.le_of_ble_eq_true rfl) (Nat.le_refl _) rfl dX9_show_46 ?_
        show J 49 [(0, .ref 0), (1, .int a1), (2, .int a2)] [.int q5.1] 117 zRF q5.2
        exact zv_retI X e rfl dX9_show_49
      · replace e := zif e c4
        refine zv_aload_n X dX9_show_33 rfl rfl ?_
        refine zv_bipush (v := (-6 : Int32)) X dX9_show_34 zbp_m6 ?_
        refine zb e (fun q6 gq6 e => ?_)
        refine zv_callV (stk := [.int (-6 : Int32), .ref 0]) (as := [.int (-6 : Int32)]) (st := []) (k := 0) X zl_RX9_108 zm_X9_refused (k_X9_refused (d := d - 1) (by omega) gq6) (by omega) zb_0 (by rw [zk_0]; rfl) rfl rfl (Nat.le_of_ble_eq_true rfl) (Nat.le_refl _) rfl dX9_show_36 ?_
        show J 39 [(0, .ref 0), (1, .int a1), (2, .int a2)] [.int q6.1] 117 zRF q6.2
        exact zv_retI X e rfl dX9_show_39
    · replace e := zif e c3
      refine zv_aload_n X dX9_show_21 rfl rfl ?_
      refine zv_bipush (v := (-4 : Int32)) X dX9_show_22 zbp_m4 ?_
      refine zb e (fun q7 gq7 e => ?_)
      refine zv_callV (stk := [.int (-4 : Int32), .ref 0]) (as := [.int (-4 : Int32)]) (st := []) (k := 0) X zl_RX9_108 zm_X9_refused (k_X9_refused (d := d - 1) (by omega) gq7) (by omega) zb_0 (by rw [zk_0]; rfl) rfl rfl (Nat.le_of_ble_eq_true rfl) (Nat.le_refl _) rfl dX9_show_24 ?_
      show J 27 [(0, .ref 0), (1, .int a1), (2, .int a2)] [.int q7.1] 117 zRF q7.2
      exact zv_retI X e rfl dX9_show_27
  · replace e := zit e c2
    refine zv_aload_n X dX9_show_11 rfl rfl ?_
    refine zv_iconst (v := (-1 : Int32)) X dX9_show_12 zic_m1 ?_
    refine zb e (fun q8 gq8 e => ?_)
    refine zv_callV (stk := [.int (-1 : Int32), .ref 0]) (as := [.int (-1 : Int32)]) (st := []) (k := 0) X zl_RX9_108 zm_X9_refused (k_X9_refused (d := d - 1) (by omega) gq8) (by omega) zb_0 (by rw [zk_0]; rfl) rfl rfl (Nat.le_of_ble_eq_true rfl) (Nat.le_refl _) rfl dX9_show_13 ?_
    show J 16 [(0, .ref 0), (1, .int a1), (2, .int a2)] [.int q8.1] 117 zRF q8.2
    exact zv_retI X e rfl dX9_show_16
-- X10_show
def s_X10_show (a1 : Int32) (a2 : Int32) (h : zHp) : Option (Int32 × zHp) :=
  (s_X10_isKitchen a1 h).bind fun q1 =>
  if q1.1 = 0 then
    (s_X10_refuse (-1 : Int32) q1.2).bind fun q9 =>
    some (q9.1, q9.2)
  else
    if 0 ≤ a2 then
      if a2 ≤ (5 : Int32) then
        (zri q1.2 80 20 a1).bind fun v5 =>
        (zui q1.2 80 20 a1 a2).bind fun h6 =>
        some (v5, h6)
      else
        (s_X10_refuse (-6 : Int32) q1.2).bind fun q7 =>
        some (q7.1, q7.2)
    else
      (s_X10_refuse (-4 : Int32) q1.2).bind fun q8 =>
      some (q8.1, q8.2)
set_option maxRecDepth 100000 in
set_option maxHeartbeats 4000000 in
theorem k_X10_show {l : Launch} {D : va_G} {cy : Nat → ClassId} {S0 d : Nat} (hd : 2 ≤ d) {a1 : Int32} {a2 : Int32} {h : zHp} {q : (Int32 × zHp)} (e : s_X10_show a1 a2 h = some q) : zCT l D cy S0 d yX10_show cX10_show 4 (some .int) [.ref 67, .int a1, .int a2] 117 zRF h (some (.int q.1)) 117 zRF q.2 := by
  unfold s_X10_show at e
  refine zCT_of RX10 rfl zm_X10_show (Nat.le_refl _) (Nat.le_of_ble_eq_true rfl) (fun J X => ?_)
  show J 0 [(0, .ref 67), (1, .int a1), (2, .int a2)] [] 117 zRF h
  refine zv_aload_n X dX10_show_0 rfl rfl ?_
  refine zv_iload_n X dX10_show_1 rfl rfl ?_
  refine zb e (fun q1 gq1 e => ?_)
  refine zv_callV (stk := [.int a1, .ref 67]) (as := [.int a1]) (st := []) (k := 67) X zl_RX10_196 zm_X10_isKitchen (k_X10_isKitchen (d := d - 1) (by omega) gq1) (by omega) zb_67 (by rw [zk_67]; rfl) rfl rfl (Nat.le_of_ble_eq_true rfl) (Nat.le_refl _) rfl dX10_show_2 ?_
  show J 5 [(0, .ref 67), (1, .int a1), (2, .int a2)] [.int q1.1] 117 zRF q1.2
  refine zv_if_ne (tgt := 14) X dX10_show_5 (by decide) (fun c2 => ?_) (fun c2 => ?_)
  · replace e := zif e c2
    refine zv_iload_n X dX10_show_14 rfl rfl ?_
    refine zv_if_ge (tgt := 25) X dX10_show_15 (by decide) (fun c3 => ?_) (fun c3 => ?_)
    · replace e := zit e c3
      refine zv_iload_n X dX10_show_25 rfl rfl ?_
      refine zv_iconst (v := (5 : Int32)) X dX10_show_26 zic_5 ?_
      refine zv_icmp_le (tgt := 37) X dX10_show_27 (by decide) (fun c4 => ?_) (fun c4 => ?_)
      · replace e := zit e c4
        refine zv_aload_n X dX10_show_37 rfl rfl ?_
        refine zv_getR X zf_RX10_47 znt_a zk_67 zb_67 zr_67_15 dX10_show_38 ?_
        refine zv_iload_n X dX10_show_41 rfl rfl ?_
        refine zb e (fun v5 gv5 e => ?_)
        refine zv_iald X zk_80 zl_80 zb_80 dX10_show_42 gv5 ?_
        refine zv_istore_n (i := 3) (lv' := [(3, .int v5), (0, .ref 67), (1, .int a1), (2, .int a2)]) X dX10_show_43 rfl (Nat.le_of_ble_eq_true rfl) rfl ?_
        refine zv_aload_n X dX10_show_44 rfl rfl ?_
        refine zv_getR X zf_RX10_47 znt_a zk_67 zb_67 zr_67_15 dX10_show_45 ?_
        refine zv_iload_n X dX10_show_48 rfl rfl ?_
        refine zv_iload_n X dX10_show_49 rfl rfl ?_
        refine zb e (fun h6 gh6 e => ?_)
        refine zv_iast X zk_80 zl_80 zb_80 dX10_show_50 gh6 ?_
        refine zv_iload_n X dX10_show_51 rfl rfl ?_
        exact zv_retI X e rfl dX10_show_52
      · replace e := zif e c4
        refine zv_aload_n X dX10_show_30 rfl rfl ?_
        refine zv_bipush (v := (-6 : Int32)) X dX10_show_31 zbp_m6 ?_
        refine zb e (fun q7 gq7 e => ?_)
        refine zv_callV (stk := [.int (-6 : Int32), .ref 67]) (as := [.int (-6 : Int32)]) (st := []) (k := 67) X zl_RX10_175 zm_X10_refuse (k_X10_refuse (d := d - 1) (by omega) gq7) (by omega) zb_67 (by rw [zk_67]; rfl) rfl rfl (Nat.le_of_ble_eq_true rfl) (Nat.le_refl _) rfl dX10_show_33 ?_
        show J 36 [(0, .ref 67), (1, .int a1), (2, .int a2)] [.int q7.1] 117 zRF q7.2
        exact zv_retI X e rfl dX10_show_36
    · replace e := zif e c3
      refine zv_aload_n X dX10_show_18 rfl rfl ?_
      refine zv_bipush (v := (-4 : Int32)) X dX10_show_19 zbp_m4 ?_
      refine zb e (fun q8 gq8 e => ?_)
      refine zv_callV (stk := [.int (-4 : Int32), .ref 67]) (as := [.int (-4 : Int32)]) (st := []) (k := 67) X zl_RX10_175 zm_X10_refuse (k_X10_refuse (d := d - 1) (by omega) gq8) (by omega) zb_67 (by rw [zk_67]; rfl) rfl rfl (Nat.le_of_ble_eq_true rfl) (Nat.le_refl _) rfl dX10_show_21 ?_
      show J 24 [(0, .ref 67), (1, .int a1), (2, .int a2)] [.int q8.1] 117 zRF q8.2
      exact zv_retI X e rfl dX10_show_24
  · replace e := zit e c2
    refine zv_aload_n X dX10_show_8 rfl rfl ?_
    refine zv_iconst (v := (-1 : Int32)) X dX10_show_9 zic_m1 ?_
    refine zb e (fun q9 gq9 e => ?_)
    refine zv_callV (stk := [.int (-1 : Int32), .ref 67]) (as := [.int (-1 : Int32)]) (st := []) (k := 67) X zl_RX10_175 zm_X10_refuse (k_X10_refuse (d := d - 1) (by omega) gq9) (by omega) zb_67 (by rw [zk_67]; rfl) rfl rfl (Nat.le_of_ble_eq_true rfl) (Nat.le_refl _) rfl dX10_show_10 ?_
    show J 13 [(0, .ref 67), (1, .int a1), (2, .int a2)] [.int q9.1] 117 zRF q9.2
    exact zv_retI X e rfl dX10_show_13
-- X4_size
def s_X4_size  (h : zHp) : Option (Int32 × zHp) :=
  some (h.1 13 10, h)
set_option maxRecDepth 100000 in
set_option maxHeartbeats 4000000 in
theorem k_X4_size {l : Launch} {D : va_G} {cy : Nat → ClassId} {S0 d : Nat} (hd : 0 ≤ d) {h : zHp} {q : (Int32 × zHp)} (e : s_X4_size  h = some q) : zCT l D cy S0 d yX4_size cX4_size 1 (some .int) [.ref 13] 117 zRF h (some (.int q.1)) 117 zRF q.2 := by
  unfold s_X4_size at e
  refine zCT_of RX4 rfl zm_X4_size (Nat.le_refl _) (Nat.le_of_ble_eq_true rfl) (fun J X => ?_)
  show J 0 [(0, .ref 13)] [] 117 zRF h
  refine zv_aload_n X dX4_size_0 rfl rfl ?_
  refine zv_getI X zf_RX4_43 zk_13 zb_13 dX4_size_1 ?_
  exact zv_retI X e rfl dX4_size_4
-- X4_shownOn
def s_X4_shownOn (a1 : Int32) (h : zHp) : Option (Int32 × zHp) :=
  (zri h 19 20 a1).bind fun v1 =>
  some (v1, h)
set_option maxRecDepth 100000 in
set_option maxHeartbeats 4000000 in
theorem k_X4_shownOn {l : Launch} {D : va_G} {cy : Nat → ClassId} {S0 d : Nat} (hd : 0 ≤ d) {a1 : Int32} {h : zHp} {q : (Int32 × zHp)} (e : s_X4_shownOn a1 h = some q) : zCT l D cy S0 d yX4_shownOn cX4_shownOn 2 (some .int) [.ref 13, .int a1] 117 zRF h (some (.int q.1)) 117 zRF q.2 := by
  unfold s_X4_shownOn at e
  refine zCT_of RX4 rfl zm_X4_shownOn (Nat.le_refl _) (Nat.le_of_ble_eq_true rfl) (fun J X => ?_)
  show J 0 [(0, .ref 13), (1, .int a1)] [] 117 zRF h
  refine zv_aload_n X dX4_shownOn_0 rfl rfl ?_
  refine zv_getR X zf_RX4_27 znt_a zk_13 zb_13 zr_13_5 dX4_shownOn_1 ?_
  refine zv_iload_n X dX4_shownOn_4 rfl rfl ?_
  refine zb e (fun v1 gv1 e => ?_)
  refine zv_iald X zk_19 zl_19 zb_19 dX4_shownOn_5 gv1 ?_
  exact zv_retI X e rfl dX4_shownOn_6
-- X9_falses
def s_X9_falses_L42 (k4 : Int32 → Int32 → zHp → Option (Int32 × zHp)) (a1 : Int32) (a2 : Int32) (h : zHp) : Option (Int32 × zHp) :=
  k4 a1 (a2 + (1 : Int32)) h
def s_X9_falses_L4 : Nat → Int32 → Int32 → zHp → Option (Int32 × zHp)
  | 0, _, _, _ => none
  | f + 1, a1, a2, h =>
  (s_X4_size h).bind fun q1 =>
  if q1.1 ≤ a2 then
    some (a1, q1.2)
  else
    (s_X4_shownOn a2 q1.2).bind fun q3 =>
    (s_X9_starOf a2 (q3.2.1 0 14) (q3.2.1 0 14) q3.2).bind fun q4 =>
    if q3.1 ≤ q4.1 then
      s_X9_falses_L42 (s_X9_falses_L4 f) a1 a2 q4.2
    else
      s_X9_falses_L42 (s_X9_falses_L4 f) (a1 + (1 : Int32)) a2 q4.2
def s_X9_falses  (h : zHp) : Option (Int32 × zHp) :=
  s_X9_falses_L4 zFU (0 : Int32) (0 : Int32) h
set_option maxRecDepth 100000 in
set_option maxHeartbeats 4000000 in
theorem k_X9_falses_L42 {l : Launch} {D : va_G} {cy : Nat → ClassId} {S0 d : Nat} {J : zJ} (q : (Int32 × zHp)) (hd : 3 ≤ d) (X : zOK l D cy S0 d RX9 cX9_falses 3 (yX9_falses.name == "<init>") 117 117 (some .int) (zRT 117 zRF (some (.int q.1)) q.2) J) {k4 : Int32 → Int32 → zHp → Option (Int32 × zHp)} (hk4 : ∀ (a1 : Int32) (a2 : Int32) (h : zHp), k4 a1 a2 h = some q → J 4 [(0, .ref 0), (1, .int a1), (2, .int a2)] [] 117 zRF h) : ∀ (a1 : Int32) (a2 : Int32) (h : zHp), s_X9_falses_L42 k4 a1 a2 h = some q → J 42 [(0, .ref 0), (1, .int a1), (2, .int a2)] [] 117 zRF h := by
  intro a1 a2 h e
  unfold s_X9_falses_L42 at e
  refine zv_iinc (k := 2) (v := a2 + (1 : Int32)) (lv' := [(2, .int (a2 + (1 : Int32))), (0, .ref 0), (1, .int a1)]) X dX9_falses_42 rfl rfl (Nat.le_of_ble_eq_true rfl) rfl ?_
  refine zv_goto (tgt := 4) X dX9_falses_45 (by decide) ?_
  exact zv_pick X [1, 2, 0] rfl (hk4 _ _ _ e)
set_option maxRecDepth 100000 in
set_option maxHeartbeats 4000000 in
theorem k_X9_falses_L4 {l : Launch} {D : va_G} {cy : Nat → ClassId} {S0 d : Nat} {J : zJ} (q : (Int32 × zHp)) (hd : 3 ≤ d) (X : zOK l D cy S0 d RX9 cX9_falses 3 (yX9_falses.name == "<init>") 117 117 (some .int) (zRT 117 zRF (some (.int q.1)) q.2) J) : ∀ (f : Nat) (a1 : Int32) (a2 : Int32) (h : zHp), s_X9_falses_L4 f a1 a2 h = some q → J 4 [(0, .ref 0), (1, .int a1), (2, .int a2)] [] 117 zRF h := by
  intro f
  induction f with
  | zero => intro _ _ h e; exact absurd e (fun z => by cases z)
  | succ f ih =>
    intro a1 a2 h e
    rw [s_X9_falses_L4] at e
    refine zv_iload_n X dX9_falses_4 rfl rfl ?_
    refine zv_aload_n X dX9_falses_5 rfl rfl ?_
    refine zv_getR X zf_RX9_36 znt_o zk_0 zb_0 zr_0_6 dX9_falses_6 ?_
    refine zb e (fun q1 gq1 e => ?_)
    refine zv_callV (stk := [.ref 13, .int a2]) (as := []) (st := [.int a2]) (k := 13) X zl_RX9_199 zm_X4_size (k_X4_size (d := d - 1) (by omega) gq1) (by omega) zb_13 (by rw [zk_13]; rfl) rfl rfl (Nat.le_of_ble_eq_true rfl) (Nat.le_refl _) rfl dX9_falses_9 ?_
    show J 12 [(0, .ref 0), (1, .int a1), (2, .int a2)] [.int q1.1, .int a2] 117 zRF q1.2
    refine zv_icmp_ge (tgt := 48) X dX9_falses_12 (by decide) (fun c2 => ?_) (fun c2 => ?_)
    · replace e := zit e c2
      refine zv_iload_n X dX9_falses_48 rfl rfl ?_
      exact zv_retI X e rfl dX9_falses_49
    · replace e := zif e c2
      refine zv_aload_n X dX9_falses_15 rfl rfl ?_
      refine zv_getR X zf_RX9_36 znt_o zk_0 zb_0 zr_0_6 dX9_falses_16 ?_
      refine zv_iload_n X dX9_falses_19 rfl rfl ?_
      refine zb e (fun q3 gq3 e => ?_)
      refine zv_callV (stk := [.int a2, .ref 13]) (as := [.int a2]) (st := []) (k := 13) X zl_RX9_200 zm_X4_shownOn (k_X4_shownOn (d := d - 1) (by omega) gq3) (by omega) zb_13 (by rw [zk_13]; rfl) rfl rfl (Nat.le_of_ble_eq_true rfl) (Nat.le_refl _) rfl dX9_falses_20 ?_
      show J 23 [(0, .ref 0), (1, .int a1), (2, .int a2)] [.int q3.1] 117 zRF q3.2
      refine zv_aload_n X dX9_falses_23 rfl rfl ?_
      refine zv_iload_n X dX9_falses_24 rfl rfl ?_
      refine zv_aload_n X dX9_falses_25 rfl rfl ?_
      refine zv_getI X zf_RX9_95 zk_0 zb_0 dX9_falses_26 ?_
      refine zv_aload_n X dX9_falses_29 rfl rfl ?_
      refine zv_getI X zf_RX9_95 zk_0 zb_0 dX9_falses_30 ?_
      refine zb e (fun q4 gq4 e => ?_)
      refine zv_callV (stk := [.int (q3.2.1 0 14), .int (q3.2.1 0 14), .int a2, .ref 0, .int q3.1]) (as := [.int a2, .int (q3.2.1 0 14), .int (q3.2.1 0 14)]) (st := [.int q3.1]) (k := 0) X zl_RX9_193 zm_X9_starOf (k_X9_starOf (d := d - 1) (by omega) gq4) (by omega) zb_0 (by rw [zk_0]; rfl) rfl rfl (Nat.le_of_ble_eq_true rfl) (Nat.le_refl _) rfl dX9_falses_33 ?_
      show J 36 [(0, .ref 0), (1, .int a1), (2, .int a2)] [.int q4.1, .int q3.1] 117 zRF q4.2
      refine zv_icmp_le (tgt := 42) X dX9_falses_36 (by decide) (fun c5 => ?_) (fun c5 => ?_)
      · replace e := zit e c5
        exact k_X9_falses_L42 q hd X ih _ _ _ e
      · replace e := zif e c5
        refine zv_iinc (k := 1) (v := a1 + (1 : Int32)) (lv' := [(1, .int (a1 + (1 : Int32))), (0, .ref 0), (2, .int a2)]) X dX9_falses_39 rfl rfl (Nat.le_of_ble_eq_true rfl) rfl ?_
        exact zv_pick X [1, 0, 2] rfl (k_X9_falses_L42 q hd X ih _ _ _ e)
set_option maxRecDepth 100000 in
set_option maxHeartbeats 4000000 in
theorem k_X9_falses {l : Launch} {D : va_G} {cy : Nat → ClassId} {S0 d : Nat} (hd : 3 ≤ d) {h : zHp} {q : (Int32 × zHp)} (e : s_X9_falses  h = some q) : zCT l D cy S0 d yX9_falses cX9_falses 3 (some .int) [.ref 0] 117 zRF h (some (.int q.1)) 117 zRF q.2 := by
  unfold s_X9_falses at e
  refine zCT_of RX9 rfl zm_X9_falses (Nat.le_refl _) (Nat.le_of_ble_eq_true rfl) (fun J X => ?_)
  show J 0 [(0, .ref 0)] [] 117 zRF h
  refine zv_iconst (v := (0 : Int32)) X dX9_falses_0 zic_0 ?_
  refine zv_istore_n (i := 1) (lv' := [(1, .int (0 : Int32)), (0, .ref 0)]) X dX9_falses_1 rfl (Nat.le_of_ble_eq_true rfl) rfl ?_
  refine zv_iconst (v := (0 : Int32)) X dX9_falses_2 zic_0 ?_
  refine zv_istore_n (i := 2) (lv' := [(2, .int (0 : Int32)), (1, .int (0 : Int32)), (0, .ref 0)]) X dX9_falses_3 rfl (Nat.le_of_ble_eq_true rfl) rfl ?_
  exact zv_pick X [2, 1, 0] rfl (k_X9_falses_L4 q hd X _ _ _ _ e)

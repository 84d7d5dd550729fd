-- X9_refused
def s_X9_refused_L21 (a1 : Int32) (h : zHp) : Option (Int32 × zHp) :=
  some (a1, h)
def s_X9_refused (a1 : Int32) (h : zHp) : Option (Int32 × zHp) :=
  if 0 ≤ a1 then
    s_X9_refused_L21 a1 h
  else
    if a1 < (-7 : Int32) then
      s_X9_refused_L21 a1 h
    else
      (some (-a1)).bind fun v3 =>
      (zri h 1 8 v3).bind fun v4 =>
      (zui h 1 8 v3 (v4 + (1 : Int32))).bind fun h5 =>
      s_X9_refused_L21 a1 h5
set_option maxRecDepth 100000 in
set_option maxHeartbeats 4000000 in
theorem k_X9_refused_L21 {l : Launch} {D : va_G} {cy : Nat → ClassId} {S0 d : Nat} {J : zJ} (q : (Int32 × zHp)) (hd : 0 ≤ d) (X : zOK l D cy S0 d RX9 cX9_refused 2 (yX9_refused.name == "<init>") 117 117 (some .int) (zRT 117 zRF (some (.int q.1)) q.2) J) : ∀ (a1 : Int32) (h : zHp), s_X9_refused_L21 a1 h = some q → J 21 [(1, .int a1)] [] 117 zRF h := by
  intro a1 h e
  unfold s_X9_refused_L21 at e
  refine zv_iload_n X dX9_refused_21 rfl rfl ?_
  exact zv_retI X e rfl dX9_refused_22
set_option maxRecDepth 100000 in
set_option maxHeartbeats 4000000 in
theorem k_X9_refused {l : Launch} {D : va_G} {cy : Nat → ClassId} {S0 d : Nat} (hd : 0 ≤ d) {a1 : Int32} {h : zHp} {q : (Int32 × zHp)} (e : s_X9_refused a1 h = some q) : zCT l D cy S0 d yX9_refused cX9_refused 2 (some .int) [.ref 0, .int a1] 117 zRF h (some (.int q.1)) 117 zRF q.2 := by
  unfold s_X9_refused at e
  refine zCT_of RX9 rfl zm_X9_refused (Nat.le_refl _) (Nat.le_of_ble_eq_true rfl) (fun J X => ?_)
  show J 0 [(0, .ref 0), (1, .int a1)] [] 117 zRF h
  refine zv_iload_n X dX9_refused_0 rfl rfl ?_
  refine zv_if_ge (tgt := 21) X dX9_refused_1 (by decide) (fun c1 => ?_) (fun c1 => ?_)
  · replace e := zit e c1
    exact zv_pick X [1] rfl (k_X9_refused_L21 q hd X _ _ e)
  · replace e := zif e c1
    refine zv_iload_n X dX9_refused_4 rfl rfl ?_
    refine zv_bipush (v := (-7 : Int32)) X dX9_refused_5 zbp_m7 ?_
    refine zv_icmp_lt (tgt := 21) X dX9_refused_7 (by decide) (fun c2 => ?_) (fun c2 => ?_)
    · replace e := zit e c2
      exact zv_pick X [1] rfl (k_X9_refused_L21 q hd X _ _ e)
    · replace e := zif e c2
      refine zv_aload_n X dX9_refused_10 rfl rfl ?_
      refine zv_getR X zf_RX9_9 znt_a zk_0 zb_0 zr_0_0 dX9_refused_11 ?_
      refine zv_iload_n X dX9_refused_14 rfl rfl ?_
      refine zv_ineg X dX9_refused_15 ?_
      refine zb e (fun v3 gv3 e => ?_)
      refine zv_nmI X gv3 ?_
      refine zv_dup2 X dX9_refused_16 ?_
      refine zb e (fun v4 gv4 e => ?_)
      refine zv_iald X zk_1 zl_1 zb_1 dX9_refused_17 gv4 ?_
      refine zv_iconst (v := (1 : Int32)) X dX9_refused_18 zic_1 ?_
      refine zv_iadd X dX9_refused_19 ?_
      refine zb e (fun h5 gh5 e => ?_)
      refine zv_iast X zk_1 zl_1 zb_1 dX9_refused_20 gh5 ?_
      exact zv_pick X [1] rfl (k_X9_refused_L21 q hd X _ _ e)
-- X9_days
def s_X9_days (a1 : Int32) (h : zHp) : Option (Int32 × zHp) :=
  if (1 : Int32) ≤ a1 then
    if a1 ≤ ((1500 : Int32) - (h.1 0 14)) then
      (some ((h.1 0 14) + a1)).bind fun v3 =>
      (zpi h 0 14 v3).bind fun h4 =>
      some (h4.1 0 14, h4)
    else
      (s_X9_refused (-6 : Int32) h).bind fun q5 =>
      some (q5.1, q5.2)
  else
    (s_X9_refused (-4 : Int32) h).bind fun q6 =>
    some (q6.1, q6.2)
set_option maxRecDepth 100000 in
set_option maxHeartbeats 4000000 in
theorem k_X9_days {l : Launch} {D : va_G} {cy : Nat → ClassId} {S0 d : Nat} (hd : 1 ≤ d) {a1 : Int32} {h : zHp} {q : (Int32 × zHp)} (e : s_X9_days a1 h = some q) : zCT l D cy S0 d yX9_days cX9_days 2 (some .int) [.ref 0, .int a1] 117 zRF h (some (.int q.1)) 117 zRF q.2 := by
  unfold s_X9_days at e
  refine zCT_of RX9 rfl zm_X9_days (Nat.le_refl _) (Nat.le_of_ble_eq_true rfl) (fun J X => ?_)
  show J 0 [(0, .ref 0), (1, .int a1)] [] 117 zRF h
  refine zv_iload_n X dX9_days_0 rfl rfl ?_
  refine zv_iconst (v := (1 : Int32)) X dX9_days_1 zic_1 ?_
  refine zv_icmp_ge (tgt := 12) X dX9_days_2 (by decide) (fun c1 => ?_) (fun c1 => ?_)
  · replace e := zit e c1
    refine zv_iload_n X dX9_days_12 rfl rfl ?_
    refine zv_sipush (v := (1500 : Int32)) X dX9_days_13 zsp_1500 ?_
    refine zv_aload_n X dX9_days_16 rfl rfl ?_
    refine zv_getI X zf_RX9_95 zk_0 zb_0 dX9_days_17 ?_
    refine zv_isub X dX9_days_20 ?_
    refine zv_icmp_le (tgt := 31) X dX9_days_21 (by decide) (fun c2 => ?_) (fun c2 => ?_)
    · replace e := zit e c2
      refine zv_aload_n X dX9_days_31 rfl rfl ?_
      refine zv_dup_r X dX9_days_32 ?_
      refine zv_getI X zf_RX9_95 zk_0 zb_0 dX9_days_33 ?_
      refine zv_iload_n X dX9_days_36 rfl rfl ?_
      refine zv_iadd X dX9_days_37 ?_
      refine zb e (fun v3 gv3 e => ?_)
      refine zv_nmI X gv3 ?_
      refine zb e (fun h4 gh4 e => ?_)
      refine zv_putI' X zf_RX9_95 zk_0 zb_0 dX9_days_38 gh4 ?_
      refine zv_aload_n X dX9_days_41 rfl rfl ?_
      refine zv_getI X zf_RX9_95 zk_0 zb_0 dX9_days_42 ?_
      exact zv_retI X e rfl dX9_days_45
    · replace e := zif e c2
      refine zv_aload_n X dX9_days_24 rfl rfl ?_
      refine zv_bipush (v := (-6 : Int32)) X dX9_days_25 zbp_m6 ?_
      refine zb e (fun q5 gq5 e => ?_)
      refine zv_callV (stk := [.int (-6 : Int32), .ref 0]) (as := [.int (-6 : Int32)]) (st := []) (k := 0) X zl_RX9_108 zm_X9_refused (k_X9_refused (d := d - 1) (by omega) gq5) (by omega) zb_0 (by rw [zk_0]; rfl) rfl rfl (Nat.le_of_ble_eq_true rfl) (Nat.le_refl _) rfl dX9_days_27 ?_
      show J 30 [(0, .ref 0), (1, .int a1)] [.int q5.1] 117 zRF q5.2
      exact zv_retI X e rfl dX9_days_30
  · replace e := zif e c1
    refine zv_aload_n X dX9_days_5 rfl rfl ?_
    refine zv_bipush (v := (-4 : Int32)) X dX9_days_6 zbp_m4 ?_
    refine zb e (fun q6 gq6 e => ?_)
    refine zv_callV (stk := [.int (-4 : Int32), .ref 0]) (as := [.int (-4 : Int32)]) (st := []) (k := 0) X zl_RX9_108 zm_X9_refused (k_X9_refused (d := d - 1) (by omega) gq6) (by omega) zb_0 (by rw [zk_0]; rfl) rfl rfl (Nat.le_of_ble_eq_true rfl) (Nat.le_refl _) rfl dX9_days_8 ?_
    show J 11 [(0, .ref 0), (1, .int a1)] [.int q6.1] 117 zRF q6.2
    exact zv_retI X e rfl dX9_days_11
-- X10_refuse
def s_X10_refuse (a1 : Int32) (h : zHp) : Option (Int32 × zHp) :=
  (some (-a1)).bind fun v1 =>
  (zri h 88 8 v1).bind fun v2 =>
  (zui h 88 8 v1 (v2 + (1 : Int32))).bind fun h3 =>
  some (a1, h3)
set_option maxRecDepth 100000 in
set_option maxHeartbeats 4000000 in
theorem k_X10_refuse {l : Launch} {D : va_G} {cy : Nat → ClassId} {S0 d : Nat} (hd : 0 ≤ d) {a1 : Int32} {h : zHp} {q : (Int32 × zHp)} (e : s_X10_refuse a1 h = some q) : zCT l D cy S0 d yX10_refuse cX10_refuse 2 (some .int) [.ref 67, .int a1] 117 zRF h (some (.int q.1)) 117 zRF q.2 := by
  unfold s_X10_refuse at e
  refine zCT_of RX10 rfl zm_X10_refuse (Nat.le_refl _) (Nat.le_of_ble_eq_true rfl) (fun J X => ?_)
  show J 0 [(0, .ref 67), (1, .int a1)] [] 117 zRF h
  refine zv_aload_n X dX10_refuse_0 rfl rfl ?_
  refine zv_getR X zf_RX10_71 znt_a zk_67 zb_67 zr_67_24 dX10_refuse_1 ?_
  refine zv_iload_n X dX10_refuse_4 rfl rfl ?_
  refine zv_ineg X dX10_refuse_5 ?_
  refine zb e (fun v1 gv1 e => ?_)
  refine zv_nmI X gv1 ?_
  refine zv_dup2 X dX10_refuse_6 ?_
  refine zb e (fun v2 gv2 e => ?_)
  refine zv_iald X zk_88 zl_88 zb_88 dX10_refuse_7 gv2 ?_
  refine zv_iconst (v := (1 : Int32)) X dX10_refuse_8 zic_1 ?_
  refine zv_iadd X dX10_refuse_9 ?_
  refine zb e (fun h3 gh3 e => ?_)
  refine zv_iast X zk_88 zl_88 zb_88 dX10_refuse_10 gh3 ?_
  refine zv_iload_n X dX10_refuse_11 rfl rfl ?_
  exact zv_retI X e rfl dX10_refuse_12
-- X10_days
def s_X10_days (a1 : Int32) (h : zHp) : Option (Int32 × zHp) :=
  if (1 : Int32) ≤ a1 then
    if a1 ≤ ((1500 : Int32) - (h.1 67 0)) then
      (some ((h.1 67 0) + a1)).bind fun v3 =>
      (zpi h 67 0 v3).bind fun h4 =>
      some (h4.1 67 0, h4)
    else
      (s_X10_refuse (-6 : Int32) h).bind fun q5 =>
      some (q5.1, q5.2)
  else
    (s_X10_refuse (-4 : Int32) h).bind fun q6 =>
    some (q6.1, q6.2)
set_option maxRecDepth 100000 in
set_option maxHeartbeats 4000000 in
theorem k_X10_days {l : Launch} {D : va_G} {cy : Nat → ClassId} {S0 d : Nat} (hd : 1 ≤ d) {a1 : Int32} {h : zHp} {q : (Int32 × zHp)} (e : s_X10_days a1 h = some q) : zCT l D cy S0 d yX10_days cX10_days 2 (some .int) [.ref 67, .int a1] 117 zRF h (some (.int q.1)) 117 zRF q.2 := by
  unfold s_X10_days at e
  refine zCT_of RX10 rfl zm_X10_days (Nat.le_refl _) (Nat.le_of_ble_eq_true rfl) (fun J X => ?_)
  show J 0 [(0, .ref 67), (1, .int a1)] [] 117 zRF h
  refine zv_iload_n X dX10_days_0 rfl rfl ?_
  refine zv_iconst (v := (1 : Int32)) X dX10_days_1 zic_1 ?_
  refine zv_icmp_ge (tgt := 12) X dX10_days_2 (by decide) (fun c1 => ?_) (fun c1 => ?_)
  · replace e := zit e c1
    refine zv_iload_n X dX10_days_12 rfl rfl ?_
    refine zv_sipush (v := (1500 : Int32)) X dX10_days_13 zsp_1500 ?_
    refine zv_aload_n X dX10_days_16 rfl rfl ?_
    refine zv_getI X zf_RX10_179 zk_67 zb_67 dX10_days_17 ?_
    refine zv_isub X dX10_days_20 ?_
    refine zv_icmp_le (tgt := 31) X dX10_days_21 (by decide) (fun c2 => ?_) (fun c2 => ?_)
    · replace e := zit e c2
      refine zv_aload_n X dX10_days_31 rfl rfl ?_
      refine zv_dup_r X dX10_days_32 ?_
      refine zv_getI X zf_RX10_179 zk_67 zb_67 dX10_days_33 ?_
      refine zv_iload_n X dX10_days_36 rfl rfl ?_
      refine zv_iadd X dX10_days_37 ?_
      refine zb e (fun v3 gv3 e => ?_)
      refine zv_nmI X gv3 ?_
      refine zb e (fun h4 gh4 e => ?_)
      refine zv_putI' X zf_RX10_179 zk_67 zb_67 dX10_days_38 gh4 ?_
      refine zv_aload_n X dX10_days_41 rfl rfl ?_
      refine zv_getI X zf_RX10_179 zk_67 zb_67 dX10_days_42 ?_
      exact zv_retI X e rfl dX10_days_45
    · replace e := zif e c2
      refine zv_aload_n X dX10_days_24 rfl rfl ?_
      refine zv_bipush (v := (-6 : Int32)) X dX10_days_25 zbp_m6 ?_
      refine zb e (fun q5 gq5 e => ?_)
      refine zv_callV (stk := [.int (-6 : Int32), .ref 67]) (as := [.int (-6 : Int32)]) (st := []) (k := 67) X zl_RX10_175 zm_X10_refuse (k_X10_refuse (d := d - 1) (by omega) gq5) (by omega) zb_67 (by rw [zk_67]; rfl) rfl rfl (Nat.le_of_ble_eq_true rfl) (Nat.le_refl _) rfl dX10_days_27 ?_
      show J 30 [(0, .ref 67), (1, .int a1)] [.int q5.1] 117 zRF q5.2
      exact zv_retI X e rfl dX10_days_30
  · replace e := zif e c1
    refine zv_aload_n X dX10_days_5 rfl rfl ?_
    refine zv_bipush (v := (-4 : Int32)) X dX10_days_6 zbp_m4 ?_
    refine zb e (fun q6 gq6 e => ?_)
    refine zv_callV (stk := [.int (-4 : Int32), .ref 67]) (as := [.int (-4 : Int32)]) (st := []) (k := 67) X zl_RX10_175 zm_X10_refuse (k_X10_refuse (d := d - 1) (by omega) gq6) (by omega) zb_67 (by rw [zk_67]; rfl) rfl rfl (Nat.le_of_ble_eq_true rfl) (Nat.le_refl _) rfl dX10_days_8 ?_
    show J 11 [(0, .ref 67), (1, .int a1)] [.int q6.1] 117 zRF q6.2
    exact zv_retI X e rfl dX10_days_11
-- X9_isWithin
def s_X9_isWithin_L14 (b0 : Int32) (h : zHp) : Option (Int32 × zHp) :=
  (zbo b0).bind fun u1 =>
  some (b0, h)
def s_X9_isWithin_L13  (h : zHp) : Option (Int32 × zHp) :=
  s_X9_isWithin_L14 (0 : Int32) h
def s_X9_isWithin (a0 : Int32) (a1 : Int32) (h : zHp) : Option (Int32 × zHp) :=
  if a0 < 0 then
    s_X9_isWithin_L13 h
  else
    if a1 ≤ a0 then
      s_X9_isWithin_L13 h
    else
      s_X9_isWithin_L14 (1 : Int32) h
set_option maxRecDepth 100000 in
set_option maxHeartbeats 4000000 in
theorem k_X9_isWithin_L14 {l : Launch} {D : va_G} {cy : Nat → ClassId} {S0 d : Nat} {J : zJ} (q : (Int32 × zHp)) (hd : 0 ≤ d) (X : zOK l D cy S0 d RX9 cX9_isWithin 2 (yX9_isWithin.name == "<init>") 117 117 (some .boolean) (zRT 117 zRF (some (.int q.1)) q.2) J) : ∀ (b0 : Int32) (h : zHp), s_X9_isWithin_L14 b0 h = some q → J 14 [] [.int b0] 117 zRF h := by
  intro b0 h e
  unfold s_X9_isWithin_L14 at e
  refine zb e (fun u gu e => ?_)
  exact zv_retZ X e rfl (zbo_ok gu) dX9_isWithin_14
set_option maxRecDepth 100000 in
set_option maxHeartbeats 4000000 in
theorem k_X9_isWithin_L13 {l : Launch} {D : va_G} {cy : Nat → ClassId} {S0 d : Nat} {J : zJ} (q : (Int32 × zHp)) (hd : 0 ≤ d) (X : zOK l D cy S0 d RX9 cX9_isWithin 2 (yX9_isWithin.name == "<init>") 117 117 (some .boolean) (zRT 117 zRF (some (.int q.1)) q.2) J) : ∀  (h : zHp), s_X9_isWithin_L13  h = some q → J 13 [] [] 117 zRF h := by
  intro  h e
  unfold s_X9_isWithin_L13 at e
  refine zv_iconst (v := (0 : Int32)) X dX9_isWithin_13 zic_0 ?_
  exact k_X9_isWithin_L14 q hd X _ _ e
set_option maxRecDepth 100000 in
set_option maxHeartbeats 4000000 in
theorem k_X9_isWithin {l : Launch} {D : va_G} {cy : Nat → ClassId} {S0 d : Nat} (hd : 0 ≤ d) {a0 : Int32} {a1 : Int32} {h : zHp} {q : (Int32 × zHp)} (e : s_X9_isWithin a0 a1 h = some q) : zCT l D cy S0 d yX9_isWithin cX9_isWithin 2 (some .boolean) [.int a0, .int a1] 117 zRF h (some (.int q.1)) 117 zRF q.2 := by
  unfold s_X9_isWithin at e
  refine zCT_of RX9 rfl zm_X9_isWithin (Nat.le_refl _) (Nat.le_of_ble_eq_true rfl) (fun J X => ?_)
  show J 0 [(0, .int a0), (1, .int a1)] [] 117 zRF h
  refine zv_iload_n X dX9_isWithin_0 rfl rfl ?_
  refine zv_if_lt (tgt := 13) X dX9_isWithin_1 (by decide) (fun c1 => ?_) (fun c1 => ?_)
  · replace e := zit e c1
    exact zv_pick X [] rfl (k_X9_isWithin_L13 q hd X  _ e)
  · replace e := zif e c1
    refine zv_iload_n X dX9_isWithin_4 rfl rfl ?_
    refine zv_iload_n X dX9_isWithin_5 rfl rfl ?_
    refine zv_icmp_ge (tgt := 13) X dX9_isWithin_6 (by decide) (fun c2 => ?_) (fun c2 => ?_)
    · replace e := zit e c2
      exact zv_pick X [] rfl (k_X9_isWithin_L13 q hd X  _ e)
    · replace e := zif e c2
      refine zv_iconst (v := (1 : Int32)) X dX9_isWithin_9 zic_1 ?_
      refine zv_goto (tgt := 14) X dX9_isWithin_10 (by decide) ?_
      exact zv_pick X [] rfl (k_X9_isWithin_L14 q hd X _ _ e)
-- X0_isFull
def s_X0_isFull_L14 (b0 : Int32) (h : zHp) : Option (Int32 × zHp) :=
  (zbo b0).bind fun u1 =>
  some (b0, h)
def s_X0_isFull  (h : zHp) : Option (Int32 × zHp) :=
  if (h.1 6 6) < (40 : Int32) then
    s_X0_isFull_L14 (0 : Int32) h
  else
    s_X0_isFull_L14 (1 : Int32) h
set_option maxRecDepth 100000 in
set_option maxHeartbeats 4000000 in
theorem k_X0_isFull_L14 {l : Launch} {D : va_G} {cy : Nat → ClassId} {S0 d : Nat} {J : zJ} (q : (Int32 × zHp)) (hd : 0 ≤ d) (X : zOK l D cy S0 d RX0 cX0_isFull 1 (yX0_isFull.name == "<init>") 117 117 (some .boolean) (zRT 117 zRF (some (.int q.1)) q.2) J) : ∀ (b0 : Int32) (h : zHp), s_X0_isFull_L14 b0 h = some q → J 14 [] [.int b0] 117 zRF h := by
  intro b0 h e
  unfold s_X0_isFull_L14 at e
  refine zb e (fun u gu e => ?_)
  exact zv_retZ X e rfl (zbo_ok gu) dX0_isFull_14
set_option maxRecDepth 100000 in
set_option maxHeartbeats 4000000 in
theorem k_X0_isFull {l : Launch} {D : va_G} {cy : Nat → ClassId} {S0 d : Nat} (hd : 0 ≤ d) {h : zHp} {q : (Int32 × zHp)} (e : s_X0_isFull  h = some q) : zCT l D cy S0 d yX0_isFull cX0_isFull 1 (some .boolean) [.ref 6] 117 zRF h (some (.int q.1)) 117 zRF q.2 := by
  unfold s_X0_isFull at e
  refine zCT_of RX0 rfl zm_X0_isFull (Nat.le_refl _) (Nat.le_of_ble_eq_true rfl) (fun J X => ?_)
  show J 0 [(0, .ref 6)] [] 117 zRF h
  refine zv_aload_n X dX0_isFull_0 rfl rfl ?_
  refine zv_getI X zf_RX0_30 zk_6 zb_6 dX0_isFull_1 ?_
  refine zv_bipush (v := (40 : Int32)) X dX0_isFull_4 zbp_40 ?_
  refine zv_icmp_lt (tgt := 13) X dX0_isFull_6 (by decide) (fun c1 => ?_) (fun c1 => ?_)
  · replace e := zit e c1
    refine zv_iconst (v := (0 : Int32)) X dX0_isFull_13 zic_0 ?_
    exact zv_pick X [] rfl (k_X0_isFull_L14 q hd X _ _ e)
  · replace e := zif e c1
    refine zv_iconst (v := (1 : Int32)) X dX0_isFull_9 zic_1 ?_
    refine zv_goto (tgt := 14) X dX0_isFull_10 (by decide) ?_
    exact zv_pick X [] rfl (k_X0_isFull_L14 q hd X _ _ e)
-- X0_add
def s_X0_add (a1 : Int32) (a2 : Int32) (a3 : Int32) (h : zHp) : Option (Int32 × zHp) :=
  (zui h 7 40 (h.1 6 6) a1).bind fun h1 =>
  (zui h1 8 40 (h1.1 6 6) a2).bind fun h2 =>
  (zui h2 9 40 (h2.1 6 6) a3).bind fun h3 =>
  (some (h3.1 6 6)).bind fun v4 =>
  (some (v4 + (1 : Int32))).bind fun v5 =>
  (zpi h3 6 6 v5).bind fun h6 =>
  some (v4, h6)
set_option maxRecDepth 100000 in
set_option maxHeartbeats 4000000 in
theorem k_X0_add {l : Launch} {D : va_G} {cy : Nat → ClassId} {S0 d : Nat} (hd : 0 ≤ d) {a1 : Int32} {a2 : Int32} {a3 : Int32} {h : zHp} {q : (Int32 × zHp)} (e : s_X0_add a1 a2 a3 h = some q) : zCT l D cy S0 d yX0_add cX0_add 4 (some .int) [.ref 6, .int a1, .int a2, .int a3] 117 zRF h (some (.int q.1)) 117 zRF q.2 := by
  unfold s_X0_add at e
  refine zCT_of RX0 rfl zm_X0_add (Nat.le_refl _) (Nat.le_of_ble_eq_true rfl) (fun J X => ?_)
  show J 0 [(0, .ref 6), (1, .int a1), (2, .int a2), (3, .int a3)] [] 117 zRF h
  refine zv_aload_n X dX0_add_0 rfl rfl ?_
  refine zv_getR X zf_RX0_9 znt_a zk_6 zb_6 zr_6_0 dX0_add_1 ?_
  refine zv_aload_n X dX0_add_4 rfl rfl ?_
  refine zv_getI X zf_RX0_30 zk_6 zb_6 dX0_add_5 ?_
  refine zv_iload_n X dX0_add_8 rfl rfl ?_
  refine zb e (fun h1 gh1 e => ?_)
  refine zv_iast X zk_7 zl_7 zb_7 dX0_add_9 gh1 ?_
  refine zv_aload_n X dX0_add_10 rfl rfl ?_
  refine zv_getR X zf_RX0_15 znt_a zk_6 zb_6 zr_6_1 dX0_add_11 ?_
  refine zv_aload_n X dX0_add_14 rfl rfl ?_
  refine zv_getI X zf_RX0_30 zk_6 zb_6 dX0_add_15 ?_
  refine zv_iload_n X dX0_add_18 rfl rfl ?_
  refine zb e (fun h2 gh2 e => ?_)
  refine zv_iast X zk_8 zl_8 zb_8 dX0_add_19 gh2 ?_
  refine zv_aload_n X dX0_add_20 rfl rfl ?_
  refine zv_getR X zf_RX0_18 znt_a zk_6 zb_6 zr_6_2 dX0_add_21 ?_
  refine zv_aload_n X dX0_add_24 rfl rfl ?_
  refine zv_getI X zf_RX0_30 zk_6 zb_6 dX0_add_25 ?_
  refine zv_iload_n X dX0_add_28 rfl rfl ?_
  refine zb e (fun h3 gh3 e => ?_)
  refine zv_iast X zk_9 zl_9 zb_9 dX0_add_29 gh3 ?_
  refine zv_aload_n X dX0_add_30 rfl rfl ?_
  refine zv_dup_r X dX0_add_31 ?_
  refine zv_getI X zf_RX0_30 zk_6 zb_6 dX0_add_32 ?_
  refine zb e (fun v4 gv4 e => ?_)
  refine zv_nmI X gv4 ?_
  refine zv_dup_x1 X dX0_add_35 ?_
  refine zv_iconst (v := (1 : Int32)) X dX0_add_36 zic_1 ?_
  refine zv_iadd X dX0_add_37 ?_
  refine zb e (fun v5 gv5 e => ?_)
  refine zv_nmI X gv5 ?_
  refine zb e (fun h6 gh6 e => ?_)
  refine zv_putI' X zf_RX0_30 zk_6 zb_6 dX0_add_38 gh6 ?_
  exact zv_retI X e rfl dX0_add_41
-- X9_code
def s_X9_code_L26  (h : zHp) : Option (Int32 × zHp) :=
  (s_X9_refused (-4 : Int32) h).bind fun q1 =>
  some (q1.1, q1.2)
def s_X9_code_L56  (h : zHp) : Option (Int32 × zHp) :=
  (s_X9_refused (-6 : Int32) h).bind fun q1 =>
  some (q1.1, q1.2)
def s_X9_code (a1 : Int32) (a2 : Int32) (a3 : Int32) (h : zHp) : Option (Int32 × zHp) :=
  (s_X9_isWithin a1 (5 : Int32) h).bind fun q1 =>
  if q1.1 = 0 then
    (s_X9_refused (-1 : Int32) q1.2).bind fun q10 =>
    some (q10.1, q10.2)
  else
    if a2 < 0 then
      s_X9_code_L26 q1.2
    else
      if (q1.2.1 0 14) ≤ a3 then
        if (50 : Int32) < a2 then
          s_X9_code_L56 q1.2
        else
          if (1500 : Int32) < a3 then
            s_X9_code_L56 q1.2
          else
            (s_X0_isFull q1.2).bind fun q7 =>
            if q7.1 = 0 then
              (s_X0_add a1 a2 a3 q7.2).bind fun q9 =>
              some (q9.1, q9.2)
            else
              s_X9_code_L56 q7.2
      else
        s_X9_code_L26 q1.2
set_option maxRecDepth 100000 in
set_option maxHeartbeats 4000000 in
theorem k_X9_code_L26 {l : Launch} {D : va_G} {cy : Nat → ClassId} {S0 d : Nat} {J : zJ} (q : (Int32 × zHp)) (hd : 1 ≤ d) (X : zOK l D cy S0 d RX9 cX9_code 4 (yX9_code.name == "<init>") 117 117 (some .int) (zRT 117 zRF (some (.int q.1)) q.2) J) : ∀  (h : zHp), s_X9_code_L26  h = some q → J 26 [(0, .ref 0)] [] 117 zRF h := by
  intro  h e
  unfold s_X9_code_L26 at e
  refine zv_aload_n X dX9_code_26 rfl rfl ?_
  refine zv_bipush (v := (-4 : Int32)) X dX9_code_27 zbp_m4 ?_
  refine zb e (fun q1 gq1 e => ?_)
  refine zv_callV (stk := [.int (-4 : Int32), .ref 0]) (as := [.int (-4 : Int32)]) (st := []) (k := 0) X zl_RX9_108 zm_X9_refused (k_X9_refused (d := d - 1) (by omega) gq1) (by omega) zb_0 (by rw [zk_0]; rfl) rfl rfl (Nat.le_of_ble_eq_true rfl) (Nat.le_refl _) rfl dX9_code_29 ?_
  show J 32 [(0, .ref 0)] [.int q1.1] 117 zRF q1.2
  exact zv_retI X e rfl dX9_code_32
set_option maxRecDepth 100000 in
set_option maxHeartbeats 4000000 in
theorem k_X9_code_L56 {l : Launch} {D : va_G} {cy : Nat → ClassId} {S0 d : Nat} {J : zJ} (q : (Int32 × zHp)) (hd : 1 ≤ d) (X : zOK l D cy S0 d RX9 cX9_code 4 (yX9_code.name == "<init>") 117 117 (some .int) (zRT 117 zRF (some (.int q.1)) q.2) J) : ∀  (h : zHp), s_X9_code_L56  h = some q → J 56 [(0, .ref 0)] [] 117 zRF h := by
  intro  h e
  unfold s_X9_code_L56 at e
  refine zv_aload_n X dX9_code_56 rfl rfl ?_
  refine zv_bipush (v := (-6 : Int32)) X dX9_code_57 zbp_m6 ?_
  refine zb e (fun q1 gq1 e => ?_)
  refine zv_callV (stk := [.int (-6 : Int32), .ref 0]) (as := [.int (-6 : Int32)]) (st := []) (k := 0) X zl_RX9_108 zm_X9_refused (k_X9_refused (d := d - 1) (by omega) gq1) (by omega) zb_0 (by rw [zk_0]; rfl) rfl rfl (Nat.le_of_ble_eq_true rfl) (Nat.le_refl _) rfl dX9_code_59 ?_
  show J 62 [(0, .ref 0)] [.int q1.1] 117 zRF q1.2
  exact zv_retI X e rfl dX9_code_62
set_option maxRecDepth 100000 in
set_option maxHeartbeats 4000000 in
theorem k_X9_code {l : Launch} {D : va_G} {cy : Nat → ClassId} {S0 d : Nat} (hd : 1 ≤ d) {a1 : Int32} {a2 : Int32} {a3 : Int32} {h : zHp} {q : (Int32 × zHp)} (e : s_X9_code a1 a2 a3 h = some q) : zCT l D cy S0 d yX9_code cX9_code 4 (some .int) [.ref 0, .int a1, .int a2, .int a3] 117 zRF h (some (.int q.1)) 117 zRF q.2 := by
  unfold s_X9_code at e
  refine zCT_of RX9 rfl zm_X9_code (Nat.le_refl _) (Nat.le_of_ble_eq_true rfl) (fun J X => ?_)
  show J 0 [(0, .ref 0), (1, .int a1), (2, .int a2), (3, .int a3)] [] 117 zRF h
  refine zv_iload_n X dX9_code_0 rfl rfl ?_
  refine zv_iconst (v := (5 : Int32)) X dX9_code_1 zic_5 ?_
  refine zb e (fun q1 gq1 e => ?_)
  refine zv_callS (stk := [.int (5 : Int32), .int a1]) (as := [.int a1, .int (5 : Int32)]) (st := []) X zl_RX9_112 zm_X9_isWithin (k_X9_isWithin (d := d - 1) (by omega) gq1) (by omega) rfl (Nat.le_of_ble_eq_true rfl) (Nat.le_refl _) rfl dX9_code_2 ?_
  show J 5 [(0, .ref 0), (1, .int a1), (2, .int a2), (3, .int a3)] [.int q1.1] 117 zRF q1.2
  refine zv_if_ne (tgt := 14) X dX9_code_5 (by decide) (fun c2 => ?_) (fun c2 => ?_)
  · replace e := zif e c2
    refine zv_iload_n X dX9_code_14 rfl rfl ?_
    refine zv_if_lt (tgt := 26) X dX9_code_15 (by decide) (fun c3 => ?_) (fun c3 => ?_)
    · replace e := zit e c3
      exact zv_pick X [0] rfl (k_X9_code_L26 q hd X  _ e)
    · replace e := zif e c3
      refine zv_iload_n X dX9_code_18 rfl rfl ?_
      refine zv_aload_n X dX9_code_19 rfl rfl ?_
      refine zv_getI X zf_RX9_95 zk_0 zb_0 dX9_code_20 ?_
      refine zv_icmp_ge (tgt := 33) X dX9_code_23 (by decide) (fun c4 => ?_) (fun c4 => ?_)
      · replace e := zit e c4
        refine zv_iload_n X dX9_code_33 rfl rfl ?_
        refine zv_bipush (v := (50 : Int32)) X dX9_code_34 zbp_50 ?_
        refine zv_icmp_gt (tgt := 56) X dX9_code_36 (by decide) (fun c5 => ?_) (fun c5 => ?_)
        · replace e := zit e c5
          exact zv_pick X [0] rfl (k_X9_code_L56 q hd X  _ e)
        · replace e := zif e c5
          refine zv_iload_n X dX9_code_39 rfl rfl ?_
          refine zv_sipush (v := (1500 : Int32)) X dX9_code_40 zsp_1500 ?_
          refine zv_icmp_gt (tgt := 56) X dX9_code_43 (by decide) (fun c6 => ?_) (fun c6 => ?_)
          · replace e := zit e c6
            exact zv_pick X [0] rfl (k_X9_code_L56 q hd X  _ e)
          · replace e := zif e c6
            refine zv_aload_n X dX9_code_46 rfl rfl ?_
            refine zv_getR X zf_RX9_29 znt_o zk_0 zb_0 zr_0_5 dX9_code_47 ?_
            refine zb e (fun q7 gq7 e => ?_)
            refine zv_callV (stk := [.ref 6]) (as := []) (st := []) (k := 6) X zl_RX9_116 zm_X0_isFull (k_X0_isFull (d := d - 1) (by omega) gq7) (by omega) zb_6 (by rw [zk_6]; rfl) rfl rfl (Nat.le_of_ble_eq_true rfl) (Nat.le_refl _) rfl dX9_code_50 ?_
            show J 53 [(0, .ref 0), (1, .int a1), (2, .int a2), (3, .int a3)] [.int q7.1] 117 zRF q7.2
            refine zv_if_eq (tgt := 63) X dX9_code_53 (by decide) (fun c8 => ?_) (fun c8 => ?_)
            · replace e := zit e c8
              refine zv_aload_n X dX9_code_63 rfl rfl ?_
              refine zv_getR X zf_RX9_29 znt_o zk_0 zb_0 zr_0_5 dX9_code_64 ?_
              refine zv_iload_n X dX9_code_67 rfl rfl ?_
              refine zv_iload_n X dX9_code_68 rfl rfl ?_
              refine zv_iload_n X dX9_code_69 rfl rfl ?_
              refine zb e (fun q9 gq9 e => ?_)
              refine zv_callV (stk := [.int a3, .int a2, .int a1, .ref 6]) (as := [.int a1, .int a2, .int a3]) (st := []) (k := 6) X zl_RX9_120 zm_X0_add (k_X0_add (d := d - 1) (by omega) gq9) (by omega) zb_6 (by rw [zk_6]; rfl) rfl rfl (Nat.le_of_ble_eq_true rfl) (Nat.le_refl _) rfl dX9_code_70 ?_
              show J 73 [(0, .ref 0), (1, .int a1), (2, .int a2), (3, .int a3)] [.int q9.1] 117 zRF q9.2
              exact zv_retI X e rfl dX9_code_73
            · replace e := zif e c8
              exact zv_pick X [0] rfl (k_X9_code_L56 q hd X  _ e)
      · replace e := zif e c4
        exact zv_pick X [0] rfl (k_X9_code_L26 q hd X  _ e)
  · replace e := zit e c2
    refine zv_aload_n X dX9_code_8 rfl rfl ?_
    refine zv_iconst (v := (-1 : Int32)) X dX9_code_9 zic_m1 ?_
    refine zb e (fun q10 gq10 e => ?_)
    refine zv_callV (stk := [.int (-1 : Int32), .ref 0]) (as := [.int (-1 : Int32)]) (st := []) (k := 0) X zl_RX9_108 zm_X9_refused (k_X9_refused (d := d - 1) (by omega) gq10) (by omega) zb_0 (by rw [zk_0]; rfl) rfl rfl (Nat.le_of_ble_eq_true rfl) (Nat.le_refl _) rfl dX9_code_10 ?_
    show J 13 [(0, .ref 0), (1, .int a1), (2, .int a2), (3, .int a3)] [.int q10.1] 117 zRF q10.2
    exact zv_retI X e rfl dX9_code_13
-- X10_in
def s_X10_in_L15 (b0 : Int32) (h : zHp) : Option (Int32 × zHp) :=
  (zbo b0).bind fun u1 =>
  some (b0, h)
def s_X10_in_L14  (h : zHp) : Option (Int32 × zHp) :=
  s_X10_in_L15 (0 : Int32) h
def s_X10_in (a0 : Int32) (a1 : Int32) (a2 : Int32) (h : zHp) : Option (Int32 × zHp) :=
  if a0 < a1 then
    s_X10_in_L14 h
  else
    if a2 < a0 then
      s_X10_in_L14 h
    else
      s_X10_in_L15 (1 : Int32) h
set_option maxRecDepth 100000 in
set_option maxHeartbeats 4000000 in
theorem k_X10_in_L15 {l : Launch} {D : va_G} {cy : Nat → ClassId} {S0 d : Nat} {J : zJ} (q : (Int32 × zHp)) (hd : 0 ≤ d) (X : zOK l D cy S0 d RX10 cX10_in 3 (yX10_in.name == "<init>") 117 117 (some .boolean) (zRT 117 zRF (some (.int q.1)) q.2) J) : ∀ (b0 : Int32) (h : zHp), s_X10_in_L15 b0 h = some q → J 15 [] [.int b0] 117 zRF h := by
  intro b0 h e
  unfold s_X10_in_L15 at e
  refine zb e (fun u gu e => ?_)
  exact zv_retZ X e rfl (zbo_ok gu) dX10_in_15
set_option maxRecDepth 100000 in
set_option maxHeartbeats 4000000 in
theorem k_X10_in_L14 {l : Launch} {D : va_G} {cy : Nat → ClassId} {S0 d : Nat} {J : zJ} (q : (Int32 × zHp)) (hd : 0 ≤ d) (X : zOK l D cy S0 d RX10 cX10_in 3 (yX10_in.name == "<init>") 117 117 (some .boolean) (zRT 117 zRF (some (.int q.1)) q.2) J) : ∀  (h : zHp), s_X10_in_L14  h = some q → J 14 [] [] 117 zRF h := by
  intro  h e
  unfold s_X10_in_L14 at e
  refine zv_iconst (v := (0 : Int32)) X dX10_in_14 zic_0 ?_
  exact k_X10_in_L15 q hd X _ _ e
set_option maxRecDepth 100000 in
set_option maxHeartbeats 4000000 in
theorem k_X10_in {l : Launch} {D : va_G} {cy : Nat → ClassId} {S0 d : Nat} (hd : 0 ≤ d) {a0 : Int32} {a1 : Int32} {a2 : Int32} {h : zHp} {q : (Int32 × zHp)} (e : s_X10_in a0 a1 a2 h = some q) : zCT l D cy S0 d yX10_in cX10_in 3 (some .boolean) [.int a0, .int a1, .int a2] 117 zRF h (some (.int q.1)) 117 zRF q.2 := by
  unfold s_X10_in at e
  refine zCT_of RX10 rfl zm_X10_in (Nat.le_refl _) (Nat.le_of_ble_eq_true rfl) (fun J X => ?_)
  show J 0 [(0, .int a0), (1, .int a1), (2, .int a2)] [] 117 zRF h
  refine zv_iload_n X dX10_in_0 rfl rfl ?_
  refine zv_iload_n X dX10_in_1 rfl rfl ?_
  refine zv_icmp_lt (tgt := 14) X dX10_in_2 (by decide) (fun c1 => ?_) (fun c1 => ?_)
  · replace e := zit e c1
    exact zv_pick X [] rfl (k_X10_in_L14 q hd X  _ e)
  · replace e := zif e c1
    refine zv_iload_n X dX10_in_5 rfl rfl ?_
    refine zv_iload_n X dX10_in_6 rfl rfl ?_
    refine zv_icmp_gt (tgt := 14) X dX10_in_7 (by decide) (fun c2 => ?_) (fun c2 => ?_)
    · replace e := zit e c2
      exact zv_pick X [] rfl (k_X10_in_L14 q hd X  _ e)
    · replace e := zif e c2
      refine zv_iconst (v := (1 : Int32)) X dX10_in_10 zic_1 ?_
      refine zv_goto (tgt := 15) X dX10_in_11 (by decide) ?_
      exact zv_pick X [] rfl (k_X10_in_L15 q hd X _ _ e)
-- X10_code
def s_X10_code_L27  (h : zHp) : Option (Int32 × zHp) :=
  (s_X10_refuse (-4 : Int32) h).bind fun q1 =>
  some (q1.1, q1.2)
def s_X10_code_L56  (h : zHp) : Option (Int32 × zHp) :=
  (s_X10_refuse (-6 : Int32) h).bind fun q1 =>
  some (q1.1, q1.2)
def s_X10_code (a1 : Int32) (a2 : Int32) (a3 : Int32) (h : zHp) : Option (Int32 × zHp) :=
  (s_X10_in a1 (0 : Int32) (4 : Int32) h).bind fun q1 =>
  if q1.1 = 0 then
    (s_X10_refuse (-1 : Int32) q1.2).bind fun q14 =>
    some (q14.1, q14.2)
  else
    if a2 < 0 then
      s_X10_code_L27 q1.2
    else
      if (q1.2.1 67 0) ≤ a3 then
        if (50 : Int32) < a2 then
          s_X10_code_L56 q1.2
        else
          if (1500 : Int32) < a3 then
            s_X10_code_L56 q1.2
          else
            if (q1.2.1 67 1) = (40 : Int32) then
              s_X10_code_L56 q1.2
            else
              (zui q1.2 68 40 (q1.2.1 67 1) a1).bind fun h8 =>
              (zui h8 69 40 (h8.1 67 1) a2).bind fun h9 =>
              (zui h9 70 40 (h9.1 67 1) a3).bind fun h10 =>
              (zui h10 71 40 (h10.1 67 1) (-1 : Int32)).bind fun h11 =>
              (some ((h11.1 67 1) + (1 : Int32))).bind fun v12 =>
              (zpi h11 67 1 v12).bind fun h13 =>
              some ((h13.1 67 1) - (1 : Int32), h13)
      else
        s_X10_code_L27 q1.2
set_option maxRecDepth 100000 in
set_option maxHeartbeats 4000000 in
theorem k_X10_code_L27 {l : Launch} {D : va_G} {cy : Nat → ClassId} {S0 d : Nat} {J : zJ} (q : (Int32 × zHp)) (hd : 1 ≤ d) (X : zOK l D cy S0 d RX10 cX10_code 4 (yX10_code.name == "<init>") 117 117 (some .int) (zRT 117 zRF (some (.int q.1)) q.2) J) : ∀  (h : zHp), s_X10_code_L27  h = some q → J 27 [(0, .ref 67)] [] 117 zRF h := by
  intro  h e
  unfold s_X10_code_L27 at e
  refine zv_aload_n X dX10_code_27 rfl rfl ?_
  refine zv_bipush (v := (-4 : Int32)) X dX10_code_28 zbp_m4 ?_
  refine zb e (fun q1 gq1 e => ?_)
  refine zv_callV (stk := [.int (-4 : Int32), .ref 67]) (as := [.int (-4 : Int32)]) (st := []) (k := 67) X zl_RX10_175 zm_X10_refuse (k_X10_refuse (d := d - 1) (by omega) gq1) (by omega) zb_67 (by rw [zk_67]; rfl) rfl rfl (Nat.le_of_ble_eq_true rfl) (Nat.le_refl _) rfl dX10_code_30 ?_
  show J 33 [(0, .ref 67)] [.int q1.1] 117 zRF q1.2
  exact zv_retI X e rfl dX10_code_33
set_option maxRecDepth 100000 in
set_option maxHeartbeats 4000000 in
theorem k_X10_code_L56 {l : Launch} {D : va_G} {cy : Nat → ClassId} {S0 d : Nat} {J : zJ} (q : (Int32 × zHp)) (hd : 1 ≤ d) (X : zOK l D cy S0 d RX10 cX10_code 4 (yX10_code.name == "<init>") 117 117 (some .int) (zRT 117 zRF (some (.int q.1)) q.2) J) : ∀  (h : zHp), s_X10_code_L56  h = some q → J 56 [(0, .ref 67)] [] 117 zRF h := by
  intro  h e
  unfold s_X10_code_L56 at e
  refine zv_aload_n X dX10_code_56 rfl rfl ?_
  refine zv_bipush (v := (-6 : Int32)) X dX10_code_57 zbp_m6 ?_
  refine zb e (fun q1 gq1 e => ?_)
  refine zv_callV (stk := [.int (-6 : Int32), .ref 67]) (as := [.int (-6 : Int32)]) (st := []) (k := 67) X zl_RX10_175 zm_X10_refuse (k_X10_refuse (d := d - 1) (by omega) gq1) (by omega) zb_67 (by rw [zk_67]; rfl) rfl rfl (Nat.le_of_ble_eq_true rfl) (Nat.le_refl _) rfl dX10_code_59 ?_
  show J 62 [(0, .ref 67)] [.int q1.1] 117 zRF q1.2
  exact zv_retI X e rfl dX10_code_62
set_option maxRecDepth 100000 in
set_option maxHeartbeats 4000000 in
theorem k_X10_code {l : Launch} {D : va_G} {cy : Nat → ClassId} {S0 d : Nat} (hd : 1 ≤ d) {a1 : Int32} {a2 : Int32} {a3 : Int32} {h : zHp} {q : (Int32 × zHp)} (e : s_X10_code a1 a2 a3 h = some q) : zCT l D cy S0 d yX10_code cX10_code 4 (some .int) [.ref 67, .int a1, .int a2, .int a3] 117 zRF h (some (.int q.1)) 117 zRF q.2 := by
  unfold s_X10_code at e
  refine zCT_of RX10 rfl zm_X10_code (Nat.le_refl _) (Nat.le_of_ble_eq_true rfl) (fun J X => ?_)
  show J 0 [(0, .ref 67), (1, .int a1), (2, .int a2), (3, .int a3)] [] 117 zRF h
  refine zv_iload_n X dX10_code_0 rfl rfl ?_
  refine zv_iconst (v := (0 : Int32)) X dX10_code_1 zic_0 ?_
  refine zv_iconst (v := (4 : Int32)) X dX10_code_2 zic_4 ?_
  refine zb e (fun q1 gq1 e => ?_)
  refine zv_callS (stk := [.int (4 : Int32), .int (0 : Int32), .int a1]) (as := [.int a1, .int (0 : Int32), .int (4 : Int32)]) (st := []) X zl_RX10_168 zm_X10_in (k_X10_in (d := d - 1) (by omega) gq1) (by omega) rfl (Nat.le_of_ble_eq_true rfl) (Nat.le_refl _) rfl dX10_code_3 ?_
  show J 6 [(0, .ref 67), (1, .int a1), (2, .int a2), (3, .int a3)] [.int q1.1] 117 zRF q1.2
  refine zv_if_ne (tgt := 15) X dX10_code_6 (by decide) (fun c2 => ?_) (fun c2 => ?_)
  · replace e := zif e c2
    refine zv_iload_n X dX10_code_15 rfl rfl ?_
    refine zv_if_lt (tgt := 27) X dX10_code_16 (by decide) (fun c3 => ?_) (fun c3 => ?_)
    · replace e := zit e c3
      exact zv_pick X [0] rfl (k_X10_code_L27 q hd X  _ e)
    · replace e := zif e c3
      refine zv_iload_n X dX10_code_19 rfl rfl ?_
      refine zv_aload_n X dX10_code_20 rfl rfl ?_
      refine zv_getI X zf_RX10_179 zk_67 zb_67 dX10_code_21 ?_
      refine zv_icmp_ge (tgt := 34) X dX10_code_24 (by decide) (fun c4 => ?_) (fun c4 => ?_)
      · replace e := zit e c4
        refine zv_iload_n X dX10_code_34 rfl rfl ?_
        refine zv_bipush (v := (50 : Int32)) X dX10_code_35 zbp_50 ?_
        refine zv_icmp_gt (tgt := 56) X dX10_code_37 (by decide) (fun c5 => ?_) (fun c5 => ?_)
        · replace e := zit e c5
          exact zv_pick X [0] rfl (k_X10_code_L56 q hd X  _ e)
        · replace e := zif e c5
          refine zv_iload_n X dX10_code_40 rfl rfl ?_
          refine zv_sipush (v := (1500 : Int32)) X dX10_code_41 zsp_1500 ?_
          refine zv_icmp_gt (tgt := 56) X dX10_code_44 (by decide) (fun c6 => ?_) (fun c6 => ?_)
          · replace e := zit e c6
            exact zv_pick X [0] rfl (k_X10_code_L56 q hd X  _ e)
          · replace e := zif e c6
            refine zv_aload_n X dX10_code_47 rfl rfl ?_
            refine zv_getI X zf_RX10_182 zk_67 zb_67 dX10_code_48 ?_
            refine zv_bipush (v := (40 : Int32)) X dX10_code_51 zbp_40 ?_
            refine zv_icmp_ne (tgt := 63) X dX10_code_53 (by decide) (fun c7 => ?_) (fun c7 => ?_)
            · replace e := zif e c7
              refine zv_aload_n X dX10_code_63 rfl rfl ?_
              refine zv_getR X zf_RX10_7 znt_a zk_67 zb_67 zr_67_2 dX10_code_64 ?_
              refine zv_aload_n X dX10_code_67 rfl rfl ?_
              refine zv_getI X zf_RX10_182 zk_67 zb_67 dX10_code_68 ?_
              refine zv_iload_n X dX10_code_71 rfl rfl ?_
              refine zb e (fun h8 gh8 e => ?_)
              refine zv_iast X zk_68 zl_68 zb_68 dX10_code_72 gh8 ?_
              refine zv_aload_n X dX10_code_73 rfl rfl ?_
              refine zv_getR X zf_RX10_13 znt_a zk_67 zb_67 zr_67_3 dX10_code_74 ?_
              refine zv_aload_n X dX10_code_77 rfl rfl ?_
              refine zv_getI X zf_RX10_182 zk_67 zb_67 dX10_code_78 ?_
              refine zv_iload_n X dX10_code_81 rfl rfl ?_
              refine zb e (fun h9 gh9 e => ?_)
              refine zv_iast X zk_69 zl_69 zb_69 dX10_code_82 gh9 ?_
              refine zv_aload_n X dX10_code_83 rfl rfl ?_
              refine zv_getR X zf_RX10_16 znt_a zk_67 zb_67 zr_67_4 dX10_code_84 ?_
              refine zv_aload_n X dX10_code_87 rfl rfl ?_
              refine zv_getI X zf_RX10_182 zk_67 zb_67 dX10_code_88 ?_
              refine zv_iload_n X dX10_code_91 rfl rfl ?_
              refine zb e (fun h10 gh10 e => ?_)
              refine zv_iast X zk_70 zl_70 zb_70 dX10_code_92 gh10 ?_
              refine zv_aload_n X dX10_code_93 rfl rfl ?_
              refine zv_getR X zf_RX10_19 znt_a zk_67 zb_67 zr_67_5 dX10_code_94 ?_
              refine zv_aload_n X dX10_code_97 rfl rfl ?_
              refine zv_getI X zf_RX10_182 zk_67 zb_67 dX10_code_98 ?_
              refine zv_iconst (v := (-1 : Int32)) X dX10_code_101 zic_m1 ?_
              refine zb e (fun h11 gh11 e => ?_)
              refine zv_iast X zk_71 zl_71 zb_71 dX10_code_102 gh11 ?_
              refine zv_aload_n X dX10_code_103 rfl rfl ?_
              refine zv_dup_r X dX10_code_104 ?_
              refine zv_getI X zf_RX10_182 zk_67 zb_67 dX10_code_105 ?_
              refine zv_iconst (v := (1 : Int32)) X dX10_code_108 zic_1 ?_
              refine zv_iadd X dX10_code_109 ?_
              refine zb e (fun v12 gv12 e => ?_)
              refine zv_nmI X gv12 ?_
              refine zb e (fun h13 gh13 e => ?_)
              refine zv_putI' X zf_RX10_182 zk_67 zb_67 dX10_code_110 gh13 ?_
              refine zv_aload_n X dX10_code_113 rfl rfl ?_
              refine zv_getI X zf_RX10_182 zk_67 zb_67 dX10_code_114 ?_
              refine zv_iconst (v := (1 : Int32)) X dX10_code_117 zic_1 ?_
              refine zv_isub X dX10_code_118 ?_
              exact zv_retI X e rfl dX10_code_119
            · replace e := zit e c7
              exact zv_pick X [0] rfl (k_X10_code_L56 q hd X  _ e)
      · replace e := zif e c4
        exact zv_pick X [0] rfl (k_X10_code_L27 q hd X  _ e)
  · replace e := zit e c2
    refine zv_aload_n X dX10_code_9 rfl rfl ?_
    refine zv_iconst (v := (-1 : Int32)) X dX10_code_10 zic_m1 ?_
    refine zb e (fun q14 gq14 e => ?_)
    refine zv_callV (stk := [.int (-1 : Int32), .ref 67]) (as := [.int (-1 : Int32)]) (st := []) (k := 67) X zl_RX10_175 zm_X10_refuse (k_X10_refuse (d := d - 1) (by omega) gq14) (by omega) zb_67 (by rw [zk_67]; rfl) rfl rfl (Nat.le_of_ble_eq_true rfl) (Nat.le_refl _) rfl dX10_code_11 ?_
    show J 14 [(0, .ref 67), (1, .int a1), (2, .int a2), (3, .int a3)] [.int q14.1] 117 zRF q14.2
    exact zv_retI X e rfl dX10_code_14
-- X0_has
def s_X0_has_L17 (b0 : Int32) (h : zHp) : Option (Int32 × zHp) :=
  (zbo b0).bind fun u1 =>
  some (b0, h)
def s_X0_has_L16  (h : zHp) : Option (Int32 × zHp) :=
  s_X0_has_L17 (0 : Int32) h
def s_X0_has (a1 : Int32) (h : zHp) : Option (Int32 × zHp) :=
  if a1 < 0 then
    s_X0_has_L16 h
  else
    if (h.1 6 6) ≤ a1 then
      s_X0_has_L16 h
    else
      s_X0_has_L17 (1 : Int32) h
set_option maxRecDepth 100000 in
set_option maxHeartbeats 4000000 in
theorem k_X0_has_L17 {l : Launch} {D : va_G} {cy : Nat → ClassId} {S0 d : Nat} {J : zJ} (q : (Int32 × zHp)) (hd : 0 ≤ d) (X : zOK l D cy S0 d RX0 cX0_has 2 (yX0_has.name == "<init>") 117 117 (some .boolean) (zRT 117 zRF (some (.int q.1)) q.2) J) : ∀ (b0 : Int32) (h : zHp), s_X0_has_L17 b0 h = some q → J 17 [] [.int b0] 117 zRF h := by
  intro b0 h e
  unfold s_X0_has_L17 at e
  refine zb e (fun u gu e => ?_)
  exact zv_retZ X e rfl (zbo_ok gu) dX0_has_17
set_option maxRecDepth 100000 in
set_option maxHeartbeats 4000000 in
theorem k_X0_has_L16 {l : Launch} {D : va_G} {cy : Nat → ClassId} {S0 d : Nat} {J : zJ} (q : (Int32 × zHp)) (hd : 0 ≤ d) (X : zOK l D cy S0 d RX0 cX0_has 2 (yX0_has.name == "<init>") 117 117 (some .boolean) (zRT 117 zRF (some (.int q.1)) q.2) J) : ∀  (h : zHp), s_X0_has_L16  h = some q → J 16 [] [] 117 zRF h := by
  intro  h e
  unfold s_X0_has_L16 at e
  refine zv_iconst (v := (0 : Int32)) X dX0_has_16 zic_0 ?_
  exact k_X0_has_L17 q hd X _ _ e
set_option maxRecDepth 100000 in
set_option maxHeartbeats 4000000 in
theorem k_X0_has {l : Launch} {D : va_G} {cy : Nat → ClassId} {S0 d : Nat} (hd : 0 ≤ d) {a1 : Int32} {h : zHp} {q : (Int32 × zHp)} (e : s_X0_has a1 h = some q) : zCT l D cy S0 d yX0_has cX0_has 2 (some .boolean) [.ref 6, .int a1] 117 zRF h (some (.int q.1)) 117 zRF q.2 := by
  unfold s_X0_has at e
  refine zCT_of RX0 rfl zm_X0_has (Nat.le_refl _) (Nat.le_of_ble_eq_true rfl) (fun J X => ?_)
  show J 0 [(0, .ref 6), (1, .int a1)] [] 117 zRF h
  refine zv_iload_n X dX0_has_0 rfl rfl ?_
  refine zv_if_lt (tgt := 16) X dX0_has_1 (by decide) (fun c1 => ?_) (fun c1 => ?_)
  · replace e := zit e c1
    exact zv_pick X [] rfl (k_X0_has_L16 q hd X  _ e)
  · replace e := zif e c1
    refine zv_iload_n X dX0_has_4 rfl rfl ?_
    refine zv_aload_n X dX0_has_5 rfl rfl ?_
    refine zv_getI X zf_RX0_30 zk_6 zb_6 dX0_has_6 ?_
    refine zv_icmp_ge (tgt := 16) X dX0_has_9 (by decide) (fun c2 => ?_) (fun c2 => ?_)
    · replace e := zit e c2
      exact zv_pick X [] rfl (k_X0_has_L16 q hd X  _ e)
    · replace e := zif e c2
      refine zv_iconst (v := (1 : Int32)) X dX0_has_12 zic_1 ?_
      refine zv_goto (tgt := 17) X dX0_has_13 (by decide) ?_
      exact zv_pick X [] rfl (k_X0_has_L17 q hd X _ _ e)
-- X0_isTurned
def s_X0_isTurned_L15 (b0 : Int32) (h : zHp) : Option (Int32 × zHp) :=
  (zbo b0).bind fun u1 =>
  some (b0, h)
def s_X0_isTurned (a1 : Int32) (h : zHp) : Option (Int32 × zHp) :=
  (zri h 10 40 a1).bind fun v1 =>
  if v1 = (-1 : Int32) then
    s_X0_isTurned_L15 (0 : Int32) h
  else
    s_X0_isTurned_L15 (1 : Int32) h
set_option maxRecDepth 100000 in
set_option maxHeartbeats 4000000 in
theorem k_X0_isTurned_L15 {l : Launch} {D : va_G} {cy : Nat → ClassId} {S0 d : Nat} {J : zJ} (q : (Int32 × zHp)) (hd : 0 ≤ d) (X : zOK l D cy S0 d RX0 cX0_isTurned 2 (yX0_isTurned.name == "<init>") 117 117 (some .boolean) (zRT 117 zRF (some (.int q.1)) q.2) J) : ∀ (b0 : Int32) (h : zHp), s_X0_isTurned_L15 b0 h = some q → J 15 [] [.int b0] 117 zRF h := by
  intro b0 h e
  unfold s_X0_isTurned_L15 at e
  refine zb e (fun u gu e => ?_)
  exact zv_retZ X e rfl (zbo_ok gu) dX0_isTurned_15
set_option maxRecDepth 100000 in
set_option maxHeartbeats 4000000 in
theorem k_X0_isTurned {l : Launch} {D : va_G} {cy : Nat → ClassId} {S0 d : Nat} (hd : 0 ≤ d) {a1 : Int32} {h : zHp} {q : (Int32 × zHp)} (e : s_X0_isTurned a1 h = some q) : zCT l D cy S0 d yX0_isTurned cX0_isTurned 2 (some .boolean) [.ref 6, .int a1] 117 zRF h (some (.int q.1)) 117 zRF q.2 := by
  unfold s_X0_isTurned at e
  refine zCT_of RX0 rfl zm_X0_isTurned (Nat.le_refl _) (Nat.le_of_ble_eq_true rfl) (fun J X => ?_)
  show J 0 [(0, .ref 6), (1, .int a1)] [] 117 zRF h
  refine zv_aload_n X dX0_isTurned_0 rfl rfl ?_
  refine zv_getR X zf_RX0_21 znt_a zk_6 zb_6 zr_6_3 dX0_isTurned_1 ?_
  refine zv_iload_n X dX0_isTurned_4 rfl rfl ?_
  refine zb e (fun v1 gv1 e => ?_)
  refine zv_iald X zk_10 zl_10 zb_10 dX0_isTurned_5 gv1 ?_
  refine zv_iconst (v := (-1 : Int32)) X dX0_isTurned_6 zic_m1 ?_
  refine zv_icmp_eq (tgt := 14) X dX0_isTurned_7 (by decide) (fun c2 => ?_) (fun c2 => ?_)
  · replace e := zit e c2
    refine zv_iconst (v := (0 : Int32)) X dX0_isTurned_14 zic_0 ?_
    exact zv_pick X [] rfl (k_X0_isTurned_L15 q hd X _ _ e)
  · replace e := zif e c2
    refine zv_iconst (v := (1 : Int32)) X dX0_isTurned_10 zic_1 ?_
    refine zv_goto (tgt := 15) X dX0_isTurned_11 (by decide) ?_
    exact zv_pick X [] rfl (k_X0_isTurned_L15 q hd X _ _ e)
-- X0_turnInto
def s_X0_turnInto (a1 : Int32) (a2 : Int32) (a3 : Int32) (h : zHp) : Option zHp :=
  (zui h 10 40 a1 a2).bind fun h1 =>
  (zui h1 11 40 a1 a3).bind fun h2 =>
  some h2
set_option maxRecDepth 100000 in
set_option maxHeartbeats 4000000 in
theorem k_X0_turnInto {l : Launch} {D : va_G} {cy : Nat → ClassId} {S0 d : Nat} (hd : 0 ≤ d) {a1 : Int32} {a2 : Int32} {a3 : Int32} {h : zHp} {q : zHp} (e : s_X0_turnInto a1 a2 a3 h = some q) : zCT l D cy S0 d yX0_turnInto cX0_turnInto 4 none [.ref 6, .int a1, .int a2, .int a3] 117 zRF h none 117 zRF q := by
  unfold s_X0_turnInto at e
  refine zCT_of RX0 rfl zm_X0_turnInto (Nat.le_refl _) (Nat.le_of_ble_eq_true rfl) (fun J X => ?_)
  show J 0 [(0, .ref 6), (1, .int a1), (2, .int a2), (3, .int a3)] [] 117 zRF h
  refine zv_aload_n X dX0_turnInto_0 rfl rfl ?_
  refine zv_getR X zf_RX0_21 znt_a zk_6 zb_6 zr_6_3 dX0_turnInto_1 ?_
  refine zv_iload_n X dX0_turnInto_4 rfl rfl ?_
  refine zv_iload_n X dX0_turnInto_5 rfl rfl ?_
  refine zb e (fun h1 gh1 e => ?_)
  refine zv_iast X zk_10 zl_10 zb_10 dX0_turnInto_6 gh1 ?_
  refine zv_aload_n X dX0_turnInto_7 rfl rfl ?_
  refine zv_getR X zf_RX0_24 znt_a zk_6 zb_6 zr_6_4 dX0_turnInto_8 ?_
  refine zv_iload_n X dX0_turnInto_11 rfl rfl ?_
  refine zv_iload_n X dX0_turnInto_12 rfl rfl ?_
  refine zb e (fun h2 gh2 e => ?_)
  refine zv_iast X zk_11 zl_11 zb_11 dX0_turnInto_13 gh2 ?_
  exact zv_retV X e rfl dX0_turnInto_14
-- X9_turn
def s_X9_turn_L22  (h : zHp) : Option (Int32 × zHp) :=
  (s_X9_refused (-1 : Int32) h).bind fun q1 =>
  some (q1.1, q1.2)
def s_X9_turn_L44  (h : zHp) : Option (Int32 × zHp) :=
  (s_X9_refused (-3 : Int32) h).bind fun q1 =>
  some (q1.1, q1.2)
def s_X9_turn (a1 : Int32) (a2 : Int32) (a3 : Int32) (h : zHp) : Option (Int32 × zHp) :=
  (s_X0_has a1 h).bind fun q1 =>
  if q1.1 = 0 then
    s_X9_turn_L22 q1.2
  else
    (s_X0_has a2 q1.2).bind fun q3 =>
    if q3.1 = 0 then
      s_X9_turn_L22 q3.2
    else
      (s_X0_isTurned a1 q3.2).bind fun q5 =>
      if q5.1 = 0 then
        if a1 < a2 then
          if (q5.2.1 0 14) ≤ a3 then
            if a3 ≤ (1500 : Int32) then
              (s_X0_turnInto a1 a2 a3 q5.2).bind fun q10 =>
              some ((1 : Int32), q10)
            else
              (s_X9_refused (-6 : Int32) q5.2).bind fun q11 =>
              some (q11.1, q11.2)
          else
            (s_X9_refused (-4 : Int32) q5.2).bind fun q12 =>
            some (q12.1, q12.2)
        else
          s_X9_turn_L44 q5.2
      else
        s_X9_turn_L44 q5.2
set_option maxRecDepth 100000 in
set_option maxHeartbeats 4000000 in
theorem k_X9_turn_L22 {l : Launch} {D : va_G} {cy : Nat → ClassId} {S0 d : Nat} {J : zJ} (q : (Int32 × zHp)) (hd : 1 ≤ d) (X : zOK l D cy S0 d RX9 cX9_turn 4 (yX9_turn.name == "<init>") 117 117 (some .int) (zRT 117 zRF (some (.int q.1)) q.2) J) : ∀  (h : zHp), s_X9_turn_L22  h = some q → J 22 [(0, .ref 0)] [] 117 zRF h := by
  intro  h e
  unfold s_X9_turn_L22 at e
  refine zv_aload_n X dX9_turn_22 rfl rfl ?_
  refine zv_iconst (v := (-1 : Int32)) X dX9_turn_23 zic_m1 ?_
  refine zb e (fun q1 gq1 e => ?_)
  refine zv_callV (stk := [.int (-1 : Int32), .ref 0]) (as := [.int (-1 : Int32)]) (st := []) (k := 0) X zl_RX9_108 zm_X9_refused (k_X9_refused (d := d - 1) (by omega) gq1) (by omega) zb_0 (by rw [zk_0]; rfl) rfl rfl (Nat.le_of_ble_eq_true rfl) (Nat.le_refl _) rfl dX9_turn_24 ?_
  show J 27 [(0, .ref 0)] [.int q1.1] 117 zRF q1.2
  exact zv_retI X e rfl dX9_turn_27
set_option maxRecDepth 100000 in
set_option maxHeartbeats 4000000 in
theorem k_X9_turn_L44 {l : Launch} {D : va_G} {cy : Nat → ClassId} {S0 d : Nat} {J : zJ} (q : (Int32 × zHp)) (hd : 1 ≤ d) (X : zOK l D cy S0 d RX9 cX9_turn 4 (yX9_turn.name == "<init>") 117 117 (some .int) (zRT 117 zRF (some (.int q.1)) q.2) J) : ∀  (h : zHp), s_X9_turn_L44  h = some q → J 44 [(0, .ref 0)] [] 117 zRF h := by
  intro  h e
  unfold s_X9_turn_L44 at e
  refine zv_aload_n X dX9_turn_44 rfl rfl ?_
  refine zv_bipush (v := (-3 : Int32)) X dX9_turn_45 zbp_m3 ?_
  refine zb e (fun q1 gq1 e => ?_)
  refine zv_callV (stk := [.int (-3 : Int32), .ref 0]) (as := [.int (-3 : Int32)]) (st := []) (k := 0) X zl_RX9_108 zm_X9_refused (k_X9_refused (d := d - 1) (by omega) gq1) (by omega) zb_0 (by rw [zk_0]; rfl) rfl rfl (Nat.le_of_ble_eq_true rfl) (Nat.le_refl _) rfl dX9_turn_47 ?_
  show J 50 [(0, .ref 0)] [.int q1.1] 117 zRF q1.2
  exact zv_retI X e rfl dX9_turn_50
set_option maxRecDepth 100000 in
set_option maxHeartbeats 4000000 in
theorem k_X9_turn {l : Launch} {D : va_G} {cy : Nat → ClassId} {S0 d : Nat} (hd : 1 ≤ d) {a1 : Int32} {a2 : Int32} {a3 : Int32} {h : zHp} {q : (Int32 × zHp)} (e : s_X9_turn a1 a2 a3 h = some q) : zCT l D cy S0 d yX9_turn cX9_turn 4 (some .int) [.ref 0, .int a1, .int a2, .int a3] 117 zRF h (some (.int q.1)) 117 zRF q.2 := by
  unfold s_X9_turn at e
  refine zCT_of RX9 rfl zm_X9_turn (Nat.le_refl _) (Nat.le_of_ble_eq_true rfl) (fun J X => ?_)
  show J 0 [(0, .ref 0), (1, .int a1), (2, .int a2), (3, .int a3)] [] 117 zRF h
  refine zv_aload_n X dX9_turn_0 rfl rfl ?_
  refine zv_getR X zf_RX9_29 znt_o zk_0 zb_0 zr_0_5 dX9_turn_1 ?_
  refine zv_iload_n X dX9_turn_4 rfl rfl ?_
  refine zb e (fun q1 gq1 e => ?_)
  refine zv_callV (stk := [.int a1, .ref 6]) (as := [.int a1]) (st := []) (k := 6) X zl_RX9_124 zm_X0_has (k_X0_has (d := d - 1) (by omega) gq1) (by omega) zb_6 (by rw [zk_6]; rfl) rfl rfl (Nat.le_of_ble_eq_true rfl) (Nat.le_refl _) rfl dX9_turn_5 ?_
  show J 8 [(0, .ref 0), (1, .int a1), (2, .int a2), (3, .int a3)] [.int q1.1] 117 zRF q1.2
  refine zv_if_eq (tgt := 22) X dX9_turn_8 (by decide) (fun c2 => ?_) (fun c2 => ?_)
  · replace e := zit e c2
    exact zv_pick X [0] rfl (k_X9_turn_L22 q hd X  _ e)
  · replace e := zif e c2
    refine zv_aload_n X dX9_turn_11 rfl rfl ?_
    refine zv_getR X zf_RX9_29 znt_o zk_0 zb_0 zr_0_5 dX9_turn_12 ?_
    refine zv_iload_n X dX9_turn_15 rfl rfl ?_
    refine zb e (fun q3 gq3 e => ?_)
    refine zv_callV (stk := [.int a2, .ref 6]) (as := [.int a2]) (st := []) (k := 6) X zl_RX9_124 zm_X0_has (k_X0_has (d := d - 1) (by omega) gq3) (by omega) zb_6 (by rw [zk_6]; rfl) rfl rfl (Nat.le_of_ble_eq_true rfl) (Nat.le_refl _) rfl dX9_turn_16 ?_
    show J 19 [(0, .ref 0), (1, .int a1), (2, .int a2), (3, .int a3)] [.int q3.1] 117 zRF q3.2
    refine zv_if_ne (tgt := 28) X dX9_turn_19 (by decide) (fun c4 => ?_) (fun c4 => ?_)
    · replace e := zif e c4
      refine zv_aload_n X dX9_turn_28 rfl rfl ?_
      refine zv_getR X zf_RX9_29 znt_o zk_0 zb_0 zr_0_5 dX9_turn_29 ?_
      refine zv_iload_n X dX9_turn_32 rfl rfl ?_
      refine zb e (fun q5 gq5 e => ?_)
      refine zv_callV (stk := [.int a1, .ref 6]) (as := [.int a1]) (st := []) (k := 6) X zl_RX9_128 zm_X0_isTurned (k_X0_isTurned (d := d - 1) (by omega) gq5) (by omega) zb_6 (by rw [zk_6]; rfl) rfl rfl (Nat.le_of_ble_eq_true rfl) (Nat.le_refl _) rfl dX9_turn_33 ?_
      show J 36 [(0, .ref 0), (1, .int a1), (2, .int a2), (3, .int a3)] [.int q5.1] 117 zRF q5.2
      refine zv_if_ne (tgt := 44) X dX9_turn_36 (by decide) (fun c6 => ?_) (fun c6 => ?_)
      · replace e := zif e c6
        exact zv_pick X [0] rfl (k_X9_turn_L44 q hd X  _ e)
      · replace e := zit e c6
        refine zv_iload_n X dX9_turn_39 rfl rfl ?_
        refine zv_iload_n X dX9_turn_40 rfl rfl ?_
        refine zv_icmp_gt (tgt := 51) X dX9_turn_41 (by decide) (fun c7 => ?_) (fun c7 => ?_)
        · replace e := zit e c7
          refine zv_iload_n X dX9_turn_51 rfl rfl ?_
          refine zv_aload_n X dX9_turn_52 rfl rfl ?_
          refine zv_getI X zf_RX9_95 zk_0 zb_0 dX9_turn_53 ?_
          refine zv_icmp_ge (tgt := 66) X dX9_turn_56 (by decide) (fun c8 => ?_) (fun c8 => ?_)
          · replace e := zit e c8
            refine zv_iload_n X dX9_turn_66 rfl rfl ?_
            refine zv_sipush (v := (1500 : Int32)) X dX9_turn_67 zsp_1500 ?_
            refine zv_icmp_le (tgt := 80) X dX9_turn_70 (by decide) (fun c9 => ?_) (fun c9 => ?_)
            · replace e := zit e c9
              refine zv_aload_n X dX9_turn_80 rfl rfl ?_
              refine zv_getR X zf_RX9_29 znt_o zk_0 zb_0 zr_0_5 dX9_turn_81 ?_
              refine zv_iload_n X dX9_turn_84 rfl rfl ?_
              refine zv_iload_n X dX9_turn_85 rfl rfl ?_
              refine zv_iload_n X dX9_turn_86 rfl rfl ?_
              refine zb e (fun q10 gq10 e => ?_)
              refine zv_callV (stk := [.int a3, .int a2, .int a1, .ref 6]) (as := [.int a1, .int a2, .int a3]) (st := []) (k := 6) X zl_RX9_131 zm_X0_turnInto (k_X0_turnInto (d := d - 1) (by omega) gq10) (by omega) zb_6 (by rw [zk_6]; rfl) rfl rfl (Nat.le_of_ble_eq_true rfl) (Nat.le_refl _) rfl dX9_turn_87 ?_
              show J 90 [(0, .ref 0), (1, .int a1), (2, .int a2), (3, .int a3)] [] 117 zRF q10
              refine zv_iconst (v := (1 : Int32)) X dX9_turn_90 zic_1 ?_
              exact zv_retI X e rfl dX9_turn_91
            · replace e := zif e c9
              refine zv_aload_n X dX9_turn_73 rfl rfl ?_
              refine zv_bipush (v := (-6 : Int32)) X dX9_turn_74 zbp_m6 ?_
              refine zb e (fun q11 gq11 e => ?_)
              refine zv_callV (stk := [.int (-6 : Int32), .ref 0]) (as := [.int (-6 : Int32)]) (st := []) (k := 0) X zl_RX9_108 zm_X9_refused (k_X9_refused (d := d - 1) (by omega) gq11) (by omega) zb_0 (by rw [zk_0]; rfl) rfl rfl (Nat.le_of_ble_eq_true rfl) (Nat.le_refl _) rfl dX9_turn_76 ?_
              show J 79 [(0, .ref 0), (1, .int a1), (2, .int a2), (3, .int a3)] [.int q11.1] 117 zRF q11.2
              exact zv_retI X e rfl dX9_turn_79
          · replace e := zif e c8
            refine zv_aload_n X dX9_turn_59 rfl rfl ?_
            refine zv_bipush (v := (-4 : Int32)) X dX9_turn_60 zbp_m4 ?_
            refine zb e (fun q12 gq12 e => ?_)
            refine zv_callV (stk := [.int (-4 : Int32), .ref 0]) (as := [.int (-4 : Int32)]) (st := []) (k := 0) X zl_RX9_108 zm_X9_refused (k_X9_refused (d := d - 1) (by omega) gq12) (by omega) zb_0 (by rw [zk_0]; rfl) rfl rfl (Nat.le_of_ble_eq_true rfl) (Nat.le_refl _) rfl dX9_turn_62 ?_
            show J 65 [(0, .ref 0), (1, .int a1), (2, .int a2), (3, .int a3)] [.int q12.1] 117 zRF q12.2
            exact zv_retI X e rfl dX9_turn_65
        · replace e := zif e c7
          exact zv_pick X [0] rfl (k_X9_turn_L44 q hd X  _ e)
    · replace e := zit e c4
      exact zv_pick X [0] rfl (k_X9_turn_L22 q hd X  _ e)
-- X10_isCode
def s_X10_isCode (a1 : Int32) (h : zHp) : Option (Int32 × zHp) :=
  (s_X10_in a1 (0 : Int32) ((h.1 67 1) - (1 : Int32)) h).bind fun q1 =>
  (zbo q1.1).bind fun u2 =>
  some (q1.1, q1.2)
set_option maxRecDepth 100000 in
set_option maxHeartbeats 4000000 in
theorem k_X10_isCode {l : Launch} {D : va_G} {cy : Nat → ClassId} {S0 d : Nat} (hd : 1 ≤ d) {a1 : Int32} {h : zHp} {q : (Int32 × zHp)} (e : s_X10_isCode a1 h = some q) : zCT l D cy S0 d yX10_isCode cX10_isCode 2 (some .boolean) [.ref 67, .int a1] 117 zRF h (some (.int q.1)) 117 zRF q.2 := by
  unfold s_X10_isCode at e
  refine zCT_of RX10 rfl zm_X10_isCode (Nat.le_refl _) (Nat.le_of_ble_eq_true rfl) (fun J X => ?_)
  show J 0 [(0, .ref 67), (1, .int a1)] [] 117 zRF h
  refine zv_iload_n X dX10_isCode_0 rfl rfl ?_
  refine zv_iconst (v := (0 : Int32)) X dX10_isCode_1 zic_0 ?_
  refine zv_aload_n X dX10_isCode_2 rfl rfl ?_
  refine zv_getI X zf_RX10_182 zk_67 zb_67 dX10_isCode_3 ?_
  refine zv_iconst (v := (1 : Int32)) X dX10_isCode_6 zic_1 ?_
  refine zv_isub X dX10_isCode_7 ?_
  refine zb e (fun q1 gq1 e => ?_)
  refine zv_callS (stk := [.int ((h.1 67 1) - (1 : Int32)), .int (0 : Int32), .int a1]) (as := [.int a1, .int (0 : Int32), .int ((h.1 67 1) - (1 : Int32))]) (st := []) X zl_RX10_168 zm_X10_in (k_X10_in (d := d - 1) (by omega) gq1) (by omega) rfl (Nat.le_of_ble_eq_true rfl) (Nat.le_refl _) rfl dX10_isCode_8 ?_
  show J 11 [(0, .ref 67), (1, .int a1)] [.int q1.1] 117 zRF q1.2
  refine zb e (fun u gu e => ?_)
  exact zv_retZ X e rfl (zbo_ok gu) dX10_isCode_11
-- X10_turn
def s_X10_turn_L16  (h : zHp) : Option (Int32 × zHp) :=
  (s_X10_refuse (-1 : Int32) h).bind fun q1 =>
  some (q1.1, q1.2)
def s_X10_turn_L36  (h : zHp) : Option (Int32 × zHp) :=
  (s_X10_refuse (-3 : Int32) h).bind fun q1 =>
  some (q1.1, q1.2)
def s_X10_turn (a1 : Int32) (a2 : Int32) (a3 : Int32) (h : zHp) : Option (Int32 × zHp) :=
  (s_X10_isCode a1 h).bind fun q1 =>
  if q1.1 = 0 then
    s_X10_turn_L16 q1.2
  else
    (s_X10_isCode a2 q1.2).bind fun q3 =>
    if q3.1 = 0 then
      s_X10_turn_L16 q3.2
    else
      (zri q3.2 71 40 a1).bind fun v5 =>
      if 0 ≤ v5 then
        s_X10_turn_L36 q3.2
      else
        if a1 < a2 then
          if (q3.2.1 67 0) ≤ a3 then
            if a3 ≤ (1500 : Int32) then
              (zui q3.2 71 40 a1 a2).bind fun h10 =>
              (zui h10 72 40 a1 a3).bind fun h11 =>
              some ((1 : Int32), h11)
            else
              (s_X10_refuse (-6 : Int32) q3.2).bind fun q12 =>
              some (q12.1, q12.2)
          else
            (s_X10_refuse (-4 : Int32) q3.2).bind fun q13 =>
            some (q13.1, q13.2)
        else
          s_X10_turn_L36 q3.2
set_option maxRecDepth 100000 in
set_option maxHeartbeats 4000000 in
theorem k_X10_turn_L16 {l : Launch} {D : va_G} {cy : Nat → ClassId} {S0 d : Nat} {J : zJ} (q : (Int32 × zHp)) (hd : 2 ≤ d) (X : zOK l D cy S0 d RX10 cX10_turn 4 (yX10_turn.name == "<init>") 117 117 (some .int) (zRT 117 zRF (some (.int q.1)) q.2) J) : ∀  (h : zHp), s_X10_turn_L16  h = some q → J 16 [(0, .ref 67)] [] 117 zRF h := by
  intro  h e
  unfold s_X10_turn_L16 at e
  refine zv_aload_n X dX10_turn_16 rfl rfl ?_
  refine zv_iconst (v := (-1 : Int32)) X dX10_turn_17 zic_m1 ?_
  refine zb e (fun q1 gq1 e => ?_)
  refine zv_callV (stk := [.int (-1 : Int32), .ref 67]) (as := [.int (-1 : Int32)]) (st := []) (k := 67) X zl_RX10_175 zm_X10_refuse (k_X10_refuse (d := d - 1) (by omega) gq1) (by omega) zb_67 (by rw [zk_67]; rfl) rfl rfl (Nat.le_of_ble_eq_true rfl) (Nat.le_refl _) rfl dX10_turn_18 ?_
  show J 21 [(0, .ref 67)] [.int q1.1] 117 zRF q1.2
  exact zv_retI X e rfl dX10_turn_21
set_option maxRecDepth 100000 in
set_option maxHeartbeats 4000000 in
theorem k_X10_turn_L36 {l : Launch} {D : va_G} {cy : Nat → ClassId} {S0 d : Nat} {J : zJ} (q : (Int32 × zHp)) (hd : 2 ≤ d) (X : zOK l D cy S0 d RX10 cX10_turn 4 (yX10_turn.name == "<init>") 117 117 (some .int) (zRT 117 zRF (some (.int q.1)) q.2) J) : ∀  (h : zHp), s_X10_turn_L36  h = some q → J 36 [(0, .ref 67)] [] 117 zRF h := by
  intro  h e
  unfold s_X10_turn_L36 at e
  refine zv_aload_n X dX10_turn_36 rfl rfl ?_
  refine zv_bipush (v := (-3 : Int32)) X dX10_turn_37 zbp_m3 ?_
  refine zb e (fun q1 gq1 e => ?_)
  refine zv_callV (stk := [.int (-3 : Int32), .ref 67]) (as := [.int (-3 : Int32)]) (st := []) (k := 67) X zl_RX10_175 zm_X10_refuse (k_X10_refuse (d := d - 1) (by omega) gq1) (by omega) zb_67 (by rw [zk_67]; rfl) rfl rfl (Nat.le_of_ble_eq_true rfl) (Nat.le_refl _) rfl dX10_turn_39 ?_
  show J 42 [(0, .ref 67)] [.int q1.1] 117 zRF q1.2
  exact zv_retI X e rfl dX10_turn_42
set_option maxRecDepth 100000 in
set_option maxHeartbeats 4000000 in
theorem k_X10_turn {l : Launch} {D : va_G} {cy : Nat → ClassId} {S0 d : Nat} (hd : 2 ≤ d) {a1 : Int32} {a2 : Int32} {a3 : Int32} {h : zHp} {q : (Int32 × zHp)} (e : s_X10_turn a1 a2 a3 h = some q) : zCT l D cy S0 d yX10_turn cX10_turn 4 (some .int) [.ref 67, .int a1, .int a2, .int a3] 117 zRF h (some (.int q.1)) 117 zRF q.2 := by
  unfold s_X10_turn at e
  refine zCT_of RX10 rfl zm_X10_turn (Nat.le_refl _) (Nat.le_of_ble_eq_true rfl) (fun J X => ?_)
  show J 0 [(0, .ref 67), (1, .int a1), (2, .int a2), (3, .int a3)] [] 117 zRF h
  refine zv_aload_n X dX10_turn_0 rfl rfl ?_
  refine zv_iload_n X dX10_turn_1 rfl rfl ?_
  refine zb e (fun q1 gq1 e => ?_)
  refine zv_callV (stk := [.int a1, .ref 67]) (as := [.int a1]) (st := []) (k := 67) X zl_RX10_185 zm_X10_isCode (k_X10_isCode (d := d - 1) (by omega) gq1) (by omega) zb_67 (by rw [zk_67]; rfl) rfl rfl (Nat.le_of_ble_eq_true rfl) (Nat.le_refl _) rfl dX10_turn_2 ?_
  show J 5 [(0, .ref 67), (1, .int a1), (2, .int a2), (3, .int a3)] [.int q1.1] 117 zRF q1.2
  refine zv_if_eq (tgt := 16) X dX10_turn_5 (by decide) (fun c2 => ?_) (fun c2 => ?_)
  · replace e := zit e c2
    exact zv_pick X [0] rfl (k_X10_turn_L16 q hd X  _ e)
  · replace e := zif e c2
    refine zv_aload_n X dX10_turn_8 rfl rfl ?_
    refine zv_iload_n X dX10_turn_9 rfl rfl ?_
    refine zb e (fun q3 gq3 e => ?_)
    refine zv_callV (stk := [.int a2, .ref 67]) (as := [.int a2]) (st := []) (k := 67) X zl_RX10_185 zm_X10_isCode (k_X10_isCode (d := d - 1) (by omega) gq3) (by omega) zb_67 (by rw [zk_67]; rfl) rfl rfl (Nat.le_of_ble_eq_true rfl) (Nat.le_refl _) rfl dX10_turn_10 ?_
    show J 13 [(0, .ref 67), (1, .int a1), (2, .int a2), (3, .int a3)] [.int q3.1] 117 zRF q3.2
    refine zv_if_ne (tgt := 22) X dX10_turn_13 (by decide) (fun c4 => ?_) (fun c4 => ?_)
    · replace e := zif e c4
      refine zv_aload_n X dX10_turn_22 rfl rfl ?_
      refine zv_getR X zf_RX10_19 znt_a zk_67 zb_67 zr_67_5 dX10_turn_23 ?_
      refine zv_iload_n X dX10_turn_26 rfl rfl ?_
      refine zb e (fun v5 gv5 e => ?_)
      refine zv_iald X zk_71 zl_71 zb_71 dX10_turn_27 gv5 ?_
      refine zv_if_ge (tgt := 36) X dX10_turn_28 (by decide) (fun c6 => ?_) (fun c6 => ?_)
      · replace e := zit e c6
        exact zv_pick X [0] rfl (k_X10_turn_L36 q hd X  _ e)
      · replace e := zif e c6
        refine zv_iload_n X dX10_turn_31 rfl rfl ?_
        refine zv_iload_n X dX10_turn_32 rfl rfl ?_
        refine zv_icmp_gt (tgt := 43) X dX10_turn_33 (by decide) (fun c7 => ?_) (fun c7 => ?_)
        · replace e := zit e c7
          refine zv_iload_n X dX10_turn_43 rfl rfl ?_
          refine zv_aload_n X dX10_turn_44 rfl rfl ?_
          refine zv_getI X zf_RX10_179 zk_67 zb_67 dX10_turn_45 ?_
          refine zv_icmp_ge (tgt := 58) X dX10_turn_48 (by decide) (fun c8 => ?_) (fun c8 => ?_)
          · replace e := zit e c8
            refine zv_iload_n X dX10_turn_58 rfl rfl ?_
            refine zv_sipush (v := (1500 : Int32)) X dX10_turn_59 zsp_1500 ?_
            refine zv_icmp_le (tgt := 72) X dX10_turn_62 (by decide) (fun c9 => ?_) (fun c9 => ?_)
            · replace e := zit e c9
              refine zv_aload_n X dX10_turn_72 rfl rfl ?_
              refine zv_getR X zf_RX10_19 znt_a zk_67 zb_67 zr_67_5 dX10_turn_73 ?_
              refine zv_iload_n X dX10_turn_76 rfl rfl ?_
              refine zv_iload_n X dX10_turn_77 rfl rfl ?_
              refine zb e (fun h10 gh10 e => ?_)
              refine zv_iast X zk_71 zl_71 zb_71 dX10_turn_78 gh10 ?_
              refine zv_aload_n X dX10_turn_79 rfl rfl ?_
              refine zv_getR X zf_RX10_22 znt_a zk_67 zb_67 zr_67_6 dX10_turn_80 ?_
              refine zv_iload_n X dX10_turn_83 rfl rfl ?_
              refine zv_iload_n X dX10_turn_84 rfl rfl ?_
              refine zb e (fun h11 gh11 e => ?_)
              refine zv_iast X zk_72 zl_72 zb_72 dX10_turn_85 gh11 ?_
              refine zv_iconst (v := (1 : Int32)) X dX10_turn_86 zic_1 ?_
              exact zv_retI X e rfl dX10_turn_87
            · replace e := zif e c9
              refine zv_aload_n X dX10_turn_65 rfl rfl ?_
              refine zv_bipush (v := (-6 : Int32)) X dX10_turn_66 zbp_m6 ?_
              refine zb e (fun q12 gq12 e => ?_)
              refine zv_callV (stk := [.int (-6 : Int32), .ref 67]) (as := [.int (-6 : Int32)]) (st := []) (k := 67) X zl_RX10_175 zm_X10_refuse (k_X10_refuse (d := d - 1) (by omega) gq12) (by omega) zb_67 (by rw [zk_67]; rfl) rfl rfl (Nat.le_of_ble_eq_true rfl) (Nat.le_refl _) rfl dX10_turn_68 ?_
              show J 71 [(0, .ref 67), (1, .int a1), (2, .int a2), (3, .int a3)] [.int q12.1] 117 zRF q12.2
              exact zv_retI X e rfl dX10_turn_71
          · replace e := zif e c8
            refine zv_aload_n X dX10_turn_51 rfl rfl ?_
            refine zv_bipush (v := (-4 : Int32)) X dX10_turn_52 zbp_m4 ?_
            refine zb e (fun q13 gq13 e => ?_)
            refine zv_callV (stk := [.int (-4 : Int32), .ref 67]) (as := [.int (-4 : Int32)]) (st := []) (k := 67) X zl_RX10_175 zm_X10_refuse (k_X10_refuse (d := d - 1) (by omega) gq13) (by omega) zb_67 (by rw [zk_67]; rfl) rfl rfl (Nat.le_of_ble_eq_true rfl) (Nat.le_refl _) rfl dX10_turn_54 ?_
            show J 57 [(0, .ref 67), (1, .int a1), (2, .int a2), (3, .int a3)] [.int q13.1] 117 zRF q13.2
            exact zv_retI X e rfl dX10_turn_57
        · replace e := zif e c7
          exact zv_pick X [0] rfl (k_X10_turn_L36 q hd X  _ e)
    · replace e := zit e c4
      exact zv_pick X [0] rfl (k_X10_turn_L16 q hd X  _ e)
-- X0_standingFor
def s_X0_standingFor_L48 (a3 : Int32) (h : zHp) : Option (Int32 × zHp) :=
  some (a3, h)
def s_X0_standingFor_L5 : Nat → Int32 → Int32 → Int32 → zHp → Option (Int32 × zHp)
  | 0, _, _, _, _ => none
  | f + 1, a2, a3, a4, h =>
  if (40 : Int32) ≤ a4 then
    s_X0_standingFor_L48 a3 h
  else
    (zri h 10 40 a3).bind fun v2 =>
    if v2 = (-1 : Int32) then
      s_X0_standingFor_L48 a3 h
    else
      (zri h 11 40 a3).bind fun v4 =>
      if v4 ≤ a2 then
        (zri h 10 40 a3).bind fun v6 =>
        s_X0_standingFor_L5 f a2 v6 (a4 + (1 : Int32)) h
      else
        s_X0_standingFor_L48 a3 h
def s_X0_standingFor (a1 : Int32) (a2 : Int32) (h : zHp) : Option (Int32 × zHp) :=
  s_X0_standingFor_L5 zFU a2 a1 (0 : Int32) h
set_option maxRecDepth 100000 in
set_option maxHeartbeats 4000000 in
theorem k_X0_standingFor_L48 {l : Launch} {D : va_G} {cy : Nat → ClassId} {S0 d : Nat} {J : zJ} (q : (Int32 × zHp)) (hd : 0 ≤ d) (X : zOK l D cy S0 d RX0 cX0_standingFor 5 (yX0_standingFor.name == "<init>") 117 117 (some .int) (zRT 117 zRF (some (.int q.1)) q.2) J) : ∀ (a3 : Int32) (h : zHp), s_X0_standingFor_L48 a3 h = some q → J 48 [(3, .int a3)] [] 117 zRF h := by
  intro a3 h e
  unfold s_X0_standingFor_L48 at e
  refine zv_iload_n X dX0_standingFor_48 rfl rfl ?_
  exact zv_retI X e rfl dX0_standingFor_49
set_option maxRecDepth 100000 in
set_option maxHeartbeats 4000000 in
theorem k_X0_standingFor_L5 {l : Launch} {D : va_G} {cy : Nat → ClassId} {S0 d : Nat} {J : zJ} (q : (Int32 × zHp)) (hd : 0 ≤ d) (X : zOK l D cy S0 d RX0 cX0_standingFor 5 (yX0_standingFor.name == "<init>") 117 117 (some .int) (zRT 117 zRF (some (.int q.1)) q.2) J) : ∀ (f : Nat) (a2 : Int32) (a3 : Int32) (a4 : Int32) (h : zHp), s_X0_standingFor_L5 f a2 a3 a4 h = some q → J 5 [(0, .ref 6), (2, .int a2), (3, .int a3), (4, .int a4)] [] 117 zRF h := by
  intro f
  induction f with
  | zero => intro _ _ _ h e; exact absurd e (fun z => by cases z)
  | succ f ih =>
    intro a2 a3 a4 h e
    rw [s_X0_standingFor_L5] at e
    refine zv_iload X dX0_standingFor_5 rfl ?_
    refine zv_bipush (v := (40 : Int32)) X dX0_standingFor_7 zbp_40 ?_
    refine zv_icmp_ge (tgt := 48) X dX0_standingFor_9 (by decide) (fun c1 => ?_) (fun c1 => ?_)
    · replace e := zit e c1
      exact zv_pick X [2] rfl (k_X0_standingFor_L48 q hd X _ _ e)
    · replace e := zif e c1
      refine zv_aload_n X dX0_standingFor_12 rfl rfl ?_
      refine zv_getR X zf_RX0_21 znt_a zk_6 zb_6 zr_6_3 dX0_standingFor_13 ?_
      refine zv_iload_n X dX0_standingFor_16 rfl rfl ?_
      refine zb e (fun v2 gv2 e => ?_)
      refine zv_iald X zk_10 zl_10 zb_10 dX0_standingFor_17 gv2 ?_
      refine zv_iconst (v := (-1 : Int32)) X dX0_standingFor_18 zic_m1 ?_
      refine zv_icmp_eq (tgt := 48) X dX0_standingFor_19 (by decide) (fun c3 => ?_) (fun c3 => ?_)
      · replace e := zit e c3
        exact zv_pick X [2] rfl (k_X0_standingFor_L48 q hd X _ _ e)
      · replace e := zif e c3
        refine zv_aload_n X dX0_standingFor_22 rfl rfl ?_
        refine zv_getR X zf_RX0_24 znt_a zk_6 zb_6 zr_6_4 dX0_standingFor_23 ?_
        refine zv_iload_n X dX0_standingFor_26 rfl rfl ?_
        refine zb e (fun v4 gv4 e => ?_)
        refine zv_iald X zk_11 zl_11 zb_11 dX0_standingFor_27 gv4 ?_
        refine zv_iload_n X dX0_standingFor_28 rfl rfl ?_
        refine zv_icmp_le (tgt := 35) X dX0_standingFor_29 (by decide) (fun c5 => ?_) (fun c5 => ?_)
        · replace e := zit e c5
          refine zv_aload_n X dX0_standingFor_35 rfl rfl ?_
          refine zv_getR X zf_RX0_21 znt_a zk_6 zb_6 zr_6_3 dX0_standingFor_36 ?_
          refine zv_iload_n X dX0_standingFor_39 rfl rfl ?_
          refine zb e (fun v6 gv6 e => ?_)
          refine zv_iald X zk_10 zl_10 zb_10 dX0_standingFor_40 gv6 ?_
          refine zv_istore_n (i := 3) (lv' := [(3, .int v6), (0, .ref 6), (2, .int a2), (4, .int a4)]) X dX0_standingFor_41 rfl (Nat.le_of_ble_eq_true rfl) rfl ?_
          refine zv_iinc (k := 3) (v := a4 + (1 : Int32)) (lv' := [(4, .int (a4 + (1 : Int32))), (3, .int v6), (0, .ref 6), (2, .int a2)]) X dX0_standingFor_42 rfl rfl (Nat.le_of_ble_eq_true rfl) rfl ?_
          refine zv_goto (tgt := 5) X dX0_standingFor_45 (by decide) ?_
          exact zv_pick X [2, 3, 1, 0] rfl (ih _ _ _ _ e)
        · replace e := zif e c5
          refine zv_goto (tgt := 48) X dX0_standingFor_32 (by decide) ?_
          exact zv_pick X [2] rfl (k_X0_standingFor_L48 q hd X _ _ e)
set_option maxRecDepth 100000 in
set_option maxHeartbeats 4000000 in
theorem k_X0_standingFor {l : Launch} {D : va_G} {cy : Nat → ClassId} {S0 d : Nat} (hd : 0 ≤ d) {a1 : Int32} {a2 : Int32} {h : zHp} {q : (Int32 × zHp)} (e : s_X0_standingFor a1 a2 h = some q) : zCT l D cy S0 d yX0_standingFor cX0_standingFor 5 (some .int) [.ref 6, .int a1, .int a2] 117 zRF h (some (.int q.1)) 117 zRF q.2 := by
  unfold s_X0_standingFor at e
  refine zCT_of RX0 rfl zm_X0_standingFor (Nat.le_refl _) (Nat.le_of_ble_eq_true rfl) (fun J X => ?_)
  show J 0 [(0, .ref 6), (1, .int a1), (2, .int a2)] [] 117 zRF h
  refine zv_iload_n X dX0_standingFor_0 rfl rfl ?_
  refine zv_istore_n (i := 3) (lv' := [(3, .int a1), (0, .ref 6), (1, .int a1), (2, .int a2)]) X dX0_standingFor_1 rfl (Nat.le_of_ble_eq_true rfl) rfl ?_
  refine zv_iconst (v := (0 : Int32)) X dX0_standingFor_2 zic_0 ?_
  refine zv_istore (i := 4) (lv' := [(4, .int (0 : Int32)), (3, .int a1), (0, .ref 6), (1, .int a1), (2, .int a2)]) X dX0_standingFor_3 (Nat.le_of_ble_eq_true rfl) rfl ?_
  exact zv_pick X [2, 4, 1, 0] rfl (k_X0_standingFor_L5 q hd X _ _ _ _ _ e)
-- X9_stands
def s_X9_stands (a1 : Int32) (a2 : Int32) (h : zHp) : Option (Int32 × zHp) :=
  (s_X0_has a1 h).bind fun q1 =>
  if q1.1 = 0 then
    (s_X9_refused (-1 : Int32) q1.2).bind fun q8 =>
    some (q8.1, q8.2)
  else
    if 0 ≤ a2 then
      if a2 ≤ (1500 : Int32) then
        (s_X0_standingFor a1 a2 q1.2).bind fun q5 =>
        some (q5.1, q5.2)
      else
        (s_X9_refused (-6 : Int32) q1.2).bind fun q6 =>
        some (q6.1, q6.2)
    else
      (s_X9_refused (-4 : Int32) q1.2).bind fun q7 =>
      some (q7.1, q7.2)
set_option maxRecDepth 100000 in
set_option maxHeartbeats 4000000 in
theorem k_X9_stands {l : Launch} {D : va_G} {cy : Nat → ClassId} {S0 d : Nat} (hd : 1 ≤ d) {a1 : Int32} {a2 : Int32} {h : zHp} {q : (Int32 × zHp)} (e : s_X9_stands a1 a2 h = some q) : zCT l D cy S0 d yX9_stands cX9_stands 3 (some .int) [.ref 0, .int a1, .int a2] 117 zRF h (some (.int q.1)) 117 zRF q.2 := by
  unfold s_X9_stands at e
  refine zCT_of RX9 rfl zm_X9_stands (Nat.le_refl _) (Nat.le_of_ble_eq_true rfl) (fun J X => ?_)
  show J 0 [(0, .ref 0), (1, .int a1), (2, .int a2)] [] 117 zRF h
  refine zv_aload_n X dX9_stands_0 rfl rfl ?_
  refine zv_getR X zf_RX9_29 znt_o zk_0 zb_0 zr_0_5 dX9_stands_1 ?_
  refine zv_iload_n X dX9_stands_4 rfl rfl ?_
  refine zb e (fun q1 gq1 e => ?_)
  refine zv_callV (stk := [.int a1, .ref 6]) (as := [.int a1]) (st := []) (k := 6) X zl_RX9_124 zm_X0_has (k_X0_has (d := d - 1) (by omega) gq1) (by omega) zb_6 (by rw [zk_6]; rfl) rfl rfl (Nat.le_of_ble_eq_true rfl) (Nat.le_refl _) rfl dX9_stands_5 ?_
  show J 8 [(0, .ref 0), (1, .int a1), (2, .int a2)] [.int q1.1] 117 zRF q1.2
  refine zv_if_ne (tgt := 17) X dX9_stands_8 (by decide) (fun c2 => ?_) (fun c2 => ?_)
  · replace e := zif e c2
    refine zv_iload_n X dX9_stands_17 rfl rfl ?_
    refine zv_if_ge (tgt := 28) X dX9_stands_18 (by decide) (fun c3 => ?_) (fun c3 => ?_)
    · replace e := zit e c3
      refine zv_iload_n X dX9_stands_28 rfl rfl ?_
      refine zv_sipush (v := (1500 : Int32)) X dX9_stands_29 zsp_1500 ?_
      refine zv_icmp_le (tgt := 42) X dX9_stands_32 (by decide) (fun c4 => ?_) (fun c4 => ?_)
      · replace e := zit e c4
        refine zv_aload_n X dX9_stands_42 rfl rfl ?_
        refine zv_getR X zf_RX9_29 znt_o zk_0 zb_0 zr_0_5 dX9_stands_43 ?_
        refine zv_iload_n X dX9_stands_46 rfl rfl ?_
        refine zv_iload_n X dX9_stands_47 rfl rfl ?_
        refine zb e (fun q5 gq5 e => ?_)
        refine zv_callV (stk := [.int a2, .int a1, .ref 6]) (as := [.int a1, .int a2]) (st := []) (k := 6) X zl_RX9_135 zm_X0_standingFor (k_X0_standingFor (d := d - 1) (by omega) gq5) (by omega) zb_6 (by rw [zk_6]; rfl) rfl rfl (Nat.le_of_ble_eq_true rfl) (Nat.le_refl _) rfl dX9_stands_48 ?_
        show J 51 [(0, .ref 0), (1, .int a1), (2, .int a2)] [.int q5.1] 117 zRF q5.2
        exact zv_retI X e rfl dX9_stands_51
      · replace e := zif e c4
        refine zv_aload_n X dX9_stands_35 rfl rfl ?_
        refine zv_bipush (v := (-6 : Int32)) X dX9_stands_36 zbp_m6 ?_
        refine zb e (fun q6 gq6 e => ?_)
        refine zv_callV (stk := [.int (-6 : Int32), .ref 0]) (as := [.int (-6 : Int32)]) (st := []) (k := 0) X zl_RX9_108 zm_X9_refused (k_X9_refused (d := d - 1) (by omega) gq6) (by omega) zb_0 (by rw [zk_0]; rfl) rfl rfl (Nat.le_of_ble_eq_true rfl) (Nat.le_refl _) rfl dX9_stands_38 ?_
        show J 41 [(0, .ref 0), (1, .int a1), (2, .int a2)] [.int q6.1] 117 zRF q6.2
        exact zv_retI X e rfl dX9_stands_41
    · replace e := zif e c3
      refine zv_aload_n X dX9_stands_21 rfl rfl ?_
      refine zv_bipush (v := (-4 : Int32)) X dX9_stands_22 zbp_m4 ?_
      refine zb e (fun q7 gq7 e => ?_)
      refine zv_callV (stk := [.int (-4 : Int32), .ref 0]) (as := [.int (-4 : Int32)]) (st := []) (k := 0) X zl_RX9_108 zm_X9_refused (k_X9_refused (d := d - 1) (by omega) gq7) (by omega) zb_0 (by rw [zk_0]; rfl) rfl rfl (Nat.le_of_ble_eq_true rfl) (Nat.le_refl _) rfl dX9_stands_24 ?_
      show J 27 [(0, .ref 0), (1, .int a1), (2, .int a2)] [.int q7.1] 117 zRF q7.2
      exact zv_retI X e rfl dX9_stands_27
  · replace e := zit e c2
    refine zv_aload_n X dX9_stands_11 rfl rfl ?_
    refine zv_iconst (v := (-1 : Int32)) X dX9_stands_12 zic_m1 ?_
    refine zb e (fun q8 gq8 e => ?_)
    refine zv_callV (stk := [.int (-1 : Int32), .ref 0]) (as := [.int (-1 : Int32)]) (st := []) (k := 0) X zl_RX9_108 zm_X9_refused (k_X9_refused (d := d - 1) (by omega) gq8) (by omega) zb_0 (by rw [zk_0]; rfl) rfl rfl (Nat.le_of_ble_eq_true rfl) (Nat.le_refl _) rfl dX9_stands_13 ?_
    show J 16 [(0, .ref 0), (1, .int a1), (2, .int a2)] [.int q8.1] 117 zRF q8.2
    exact zv_retI X e rfl dX9_stands_16
-- X10_wrongDay
def s_X10_wrongDay_L22 (b0 : Int32) (h : zHp) : Option (Int32 × zHp) :=
  some (b0, h)
def s_X10_wrongDay (a0 : Int32) (h : zHp) : Option (Int32 × zHp) :=
  if 0 ≤ a0 then
    if a0 ≤ (1500 : Int32) then
      s_X10_wrongDay_L22 (0 : Int32) h
    else
      s_X10_wrongDay_L22 (-6 : Int32) h
  else
    s_X10_wrongDay_L22 (-4 : Int32) h
set_option maxRecDepth 100000 in
set_option maxHeartbeats 4000000 in
theorem k_X10_wrongDay_L22 {l : Launch} {D : va_G} {cy : Nat → ClassId} {S0 d : Nat} {J : zJ} (q : (Int32 × zHp)) (hd : 0 ≤ d) (X : zOK l D cy S0 d RX10 cX10_wrongDay 1 (yX10_wrongDay.name == "<init>") 117 117 (some .int) (zRT 117 zRF (some (.int q.1)) q.2) J) : ∀ (b0 : Int32) (h : zHp), s_X10_wrongDay_L22 b0 h = some q → J 22 [] [.int b0] 117 zRF h := by
  intro b0 h e
  unfold s_X10_wrongDay_L22 at e
  exact zv_retI X e rfl dX10_wrongDay_22
set_option maxRecDepth 100000 in
set_option maxHeartbeats 4000000 in
theorem k_X10_wrongDay {l : Launch} {D : va_G} {cy : Nat → ClassId} {S0 d : Nat} (hd : 0 ≤ d) {a0 : Int32} {h : zHp} {q : (Int32 × zHp)} (e : s_X10_wrongDay a0 h = some q) : zCT l D cy S0 d yX10_wrongDay cX10_wrongDay 1 (some .int) [.int a0] 117 zRF h (some (.int q.1)) 117 zRF q.2 := by
  unfold s_X10_wrongDay at e
  refine zCT_of RX10 rfl zm_X10_wrongDay (Nat.le_refl _) (Nat.le_of_ble_eq_true rfl) (fun J X => ?_)
  show J 0 [(0, .int a0)] [] 117 zRF h
  refine zv_iload_n X dX10_wrongDay_0 rfl rfl ?_
  refine zv_if_ge (tgt := 9) X dX10_wrongDay_1 (by decide) (fun c1 => ?_) (fun c1 => ?_)
  · replace e := zit e c1
    refine zv_iload_n X dX10_wrongDay_9 rfl rfl ?_
    refine zv_sipush (v := (1500 : Int32)) X dX10_wrongDay_10 zsp_1500 ?_
    refine zv_icmp_le (tgt := 21) X dX10_wrongDay_13 (by decide) (fun c2 => ?_) (fun c2 => ?_)
    · replace e := zit e c2
      refine zv_iconst (v := (0 : Int32)) X dX10_wrongDay_21 zic_0 ?_
      exact zv_pick X [] rfl (k_X10_wrongDay_L22 q hd X _ _ e)
    · replace e := zif e c2
      refine zv_bipush (v := (-6 : Int32)) X dX10_wrongDay_16 zbp_m6 ?_
      refine zv_goto (tgt := 22) X dX10_wrongDay_18 (by decide) ?_
      exact zv_pick X [] rfl (k_X10_wrongDay_L22 q hd X _ _ e)
  · replace e := zif e c1
    refine zv_bipush (v := (-4 : Int32)) X dX10_wrongDay_4 zbp_m4 ?_
    refine zv_goto (tgt := 22) X dX10_wrongDay_6 (by decide) ?_
    exact zv_pick X [] rfl (k_X10_wrongDay_L22 q hd X _ _ e)
-- X10_standsFor
def s_X10_standsFor_L31 (a3 : Int32) (h : zHp) : Option (Int32 × zHp) :=
  some (a3, h)
def s_X10_standsFor_L2 : Nat → Int32 → Int32 → zHp → Option (Int32 × zHp)
  | 0, _, _, _ => none
  | f + 1, a2, a3, h =>
  (zri h 71 40 a3).bind fun v1 =>
  if v1 < 0 then
    s_X10_standsFor_L31 a3 h
  else
    (zri h 72 40 a3).bind fun v3 =>
    if a2 < v3 then
      s_X10_standsFor_L31 a3 h
    else
      (zri h 71 40 a3).bind fun v5 =>
      s_X10_standsFor_L2 f a2 v5 h
def s_X10_standsFor (a1 : Int32) (a2 : Int32) (h : zHp) : Option (Int32 × zHp) :=
  s_X10_standsFor_L2 zFU a2 a1 h
set_option maxRecDepth 100000 in
set_option maxHeartbeats 4000000 in
theorem k_X10_standsFor_L31 {l : Launch} {D : va_G} {cy : Nat → ClassId} {S0 d : Nat} {J : zJ} (q : (Int32 × zHp)) (hd : 0 ≤ d) (X : zOK l D cy S0 d RX10 cX10_standsFor 4 (yX10_standsFor.name == "<init>") 117 117 (some .int) (zRT 117 zRF (some (.int q.1)) q.2) J) : ∀ (a3 : Int32) (h : zHp), s_X10_standsFor_L31 a3 h = some q → J 31 [(3, .int a3)] [] 117 zRF h := by
  intro a3 h e
  unfold s_X10_standsFor_L31 at e
  refine zv_iload_n X dX10_standsFor_31 rfl rfl ?_
  exact zv_retI X e rfl dX10_standsFor_32
set_option maxRecDepth 100000 in
set_option maxHeartbeats 4000000 in
theorem k_X10_standsFor_L2 {l : Launch} {D : va_G} {cy : Nat → ClassId} {S0 d : Nat} {J : zJ} (q : (Int32 × zHp)) (hd : 0 ≤ d) (X : zOK l D cy S0 d RX10 cX10_standsFor 4 (yX10_standsFor.name == "<init>") 117 117 (some .int) (zRT 117 zRF (some (.int q.1)) q.2) J) : ∀ (f : Nat) (a2 : Int32) (a3 : Int32) (h : zHp), s_X10_standsFor_L2 f a2 a3 h = some q → J 2 [(0, .ref 67), (2, .int a2), (3, .int a3)] [] 117 zRF h := by
  intro f
  induction f with
  | zero => intro _ _ h e; exact absurd e (fun z => by cases z)
  | succ f ih =>
    intro a2 a3 h e
    rw [s_X10_standsFor_L2] at e
    refine zv_aload_n X dX10_standsFor_2 rfl rfl ?_
    refine zv_getR X zf_RX10_19 znt_a zk_67 zb_67 zr_67_5 dX10_standsFor_3 ?_
    refine zv_iload_n X dX10_standsFor_6 rfl rfl ?_
    refine zb e (fun v1 gv1 e => ?_)
    refine zv_iald X zk_71 zl_71 zb_71 dX10_standsFor_7 gv1 ?_
    refine zv_if_lt (tgt := 31) X dX10_standsFor_8 (by decide) (fun c2 => ?_) (fun c2 => ?_)
    · replace e := zit e c2
      exact zv_pick X [2] rfl (k_X10_standsFor_L31 q hd X _ _ e)
    · replace e := zif e c2
      refine zv_aload_n X dX10_standsFor_11 rfl rfl ?_
      refine zv_getR X zf_RX10_22 znt_a zk_67 zb_67 zr_67_6 dX10_standsFor_12 ?_
      refine zv_iload_n X dX10_standsFor_15 rfl rfl ?_
      refine zb e (fun v3 gv3 e => ?_)
      refine zv_iald X zk_72 zl_72 zb_72 dX10_standsFor_16 gv3 ?_
      refine zv_iload_n X dX10_standsFor_17 rfl rfl ?_
      refine zv_icmp_gt (tgt := 31) X dX10_standsFor_18 (by decide) (fun c4 => ?_) (fun c4 => ?_)
      · replace e := zit e c4
        exact zv_pick X [2] rfl (k_X10_standsFor_L31 q hd X _ _ e)
      · replace e := zif e c4
        refine zv_aload_n X dX10_standsFor_21 rfl rfl ?_
        refine zv_getR X zf_RX10_19 znt_a zk_67 zb_67 zr_67_5 dX10_standsFor_22 ?_
        refine zv_iload_n X dX10_standsFor_25 rfl rfl ?_
        refine zb e (fun v5 gv5 e => ?_)
        refine zv_iald X zk_71 zl_71 zb_71 dX10_standsFor_26 gv5 ?_
        refine zv_istore_n (i := 3) (lv' := [(3, .int v5), (0, .ref 67), (2, .int a2)]) X dX10_standsFor_27 rfl (Nat.le_of_ble_eq_true rfl) rfl ?_
        refine zv_goto (tgt := 2) X dX10_standsFor_28 (by decide) ?_
        exact zv_pick X [1, 2, 0] rfl (ih _ _ _ e)
set_option maxRecDepth 100000 in
set_option maxHeartbeats 4000000 in
theorem k_X10_standsFor {l : Launch} {D : va_G} {cy : Nat → ClassId} {S0 d : Nat} (hd : 0 ≤ d) {a1 : Int32} {a2 : Int32} {h : zHp} {q : (Int32 × zHp)} (e : s_X10_standsFor a1 a2 h = some q) : zCT l D cy S0 d yX10_standsFor cX10_standsFor 4 (some .int) [.ref 67, .int a1, .int a2] 117 zRF h (some (.int q.1)) 117 zRF q.2 := by
  unfold s_X10_standsFor at e
  refine zCT_of RX10 rfl zm_X10_standsFor (Nat.le_refl _) (Nat.le_of_ble_eq_true rfl) (fun J X => ?_)
  show J 0 [(0, .ref 67), (1, .int a1), (2, .int a2)] [] 117 zRF h
  refine zv_iload_n X dX10_standsFor_0 rfl rfl ?_
  refine zv_istore_n (i := 3) (lv' := [(3, .int a1), (0, .ref 67), (1, .int a1), (2, .int a2)]) X dX10_standsFor_1 rfl (Nat.le_of_ble_eq_true rfl) rfl ?_
  exact zv_pick X [1, 3, 0] rfl (k_X10_standsFor_L2 q hd X _ _ _ _ e)

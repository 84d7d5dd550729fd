-- X10_ask
def s_X10_ask_L104 (k9 : Int32 → Int32 → zHp → Option zHp) (k20 : Int32 → Int32 → Int32 → Int32 → zHp → Option zHp) (a1 : Int32) (a2 : Int32) (a4 : Int32) (b0 : Int32) (h : zHp) : Option zHp :=
  k20 a1 a2 b0 (a4 + (1 : Int32)) h
def s_X10_ask_L98 (k9 : Int32 → Int32 → zHp → Option zHp) (k20 : Int32 → Int32 → Int32 → Int32 → zHp → Option zHp) (a1 : Int32) (a2 : Int32) (a4 : Int32) (h : zHp) : Option zHp :=
  s_X10_ask_L104 k9 k20 a1 a2 a4 a4 h
def s_X10_ask_L103 (k9 : Int32 → Int32 → zHp → Option zHp) (k20 : Int32 → Int32 → Int32 → Int32 → zHp → Option zHp) (a1 : Int32) (a2 : Int32) (a3 : Int32) (a4 : Int32) (h : zHp) : Option zHp :=
  s_X10_ask_L104 k9 k20 a1 a2 a4 a3 h
def s_X10_ask_L59 (k9 : Int32 → Int32 → zHp → Option zHp) (k20 : Int32 → Int32 → Int32 → Int32 → zHp → Option zHp) (a1 : Int32) (a2 : Int32) (a3 : Int32) (a4 : Int32) (b0 : Int32) (h : zHp) : Option zHp :=
  if b0 = 0 then
    s_X10_ask_L103 k9 k20 a1 a2 a3 a4 h
  else
    if a3 < 0 then
      s_X10_ask_L98 k9 k20 a1 a2 a4 h
    else
      (s_X10_costOf a4 ((h.1 67 0) + (7 : Int32)) h).bind fun q3 =>
      (s_X10_costOf a3 ((q3.2.1 67 0) + (7 : Int32)) q3.2).bind fun q4 =>
      if q3.1 ≤ q4.1 then
        s_X10_ask_L103 k9 k20 a1 a2 a3 a4 q4.2
      else
        s_X10_ask_L98 k9 k20 a1 a2 a4 q4.2
def s_X10_ask_L58 (k9 : Int32 → Int32 → zHp → Option zHp) (k20 : Int32 → Int32 → Int32 → Int32 → zHp → Option zHp) (a1 : Int32) (a2 : Int32) (a3 : Int32) (a4 : Int32) (h : zHp) : Option zHp :=
  s_X10_ask_L59 k9 k20 a1 a2 a3 a4 (0 : Int32) h
def s_X10_ask_L123 (k9 : Int32 → Int32 → zHp → Option zHp) (a2 : Int32) (b0 : Int32) (b1 : Int32) (h : zHp) : Option zHp :=
  (some (b0 ||| b1)).bind fun v1 =>
  k9 v1 (a2 + (1 : Int32)) h
def s_X10_ask_L20 (k9 : Int32 → Int32 → zHp → Option zHp) : Nat → Int32 → Int32 → Int32 → Int32 → zHp → Option zHp
  | 0, _, _, _, _, _ => none
  | f + 1, a1, a2, a3, a4, h =>
  if (h.1 67 8) ≤ a4 then
    if 0 ≤ a3 then
      s_X10_ask_L123 k9 a2 a1 ((1 : Int32) <<< (a3 &&& 31)) h
    else
      s_X10_ask_L123 k9 a2 a1 (0 : Int32) h
  else
    if ((a1 >>> (a4 &&& 31)) &&& (1 : Int32)) = 0 then
      (s_X10_dueOf a4 h).bind fun q4 =>
      if ((q4.2.1 67 0) + (7 : Int32)) ≤ q4.1 then
        s_X10_ask_L58 k9 (s_X10_ask_L20 k9 f) a1 a2 a3 a4 q4.2
      else
        s_X10_ask_L59 k9 (s_X10_ask_L20 k9 f) a1 a2 a3 a4 (1 : Int32) q4.2
    else
      s_X10_ask_L58 k9 (s_X10_ask_L20 k9 f) a1 a2 a3 a4 h
def s_X10_ask_L236 (k133 : Int32 → Int32 → zHp → Option zHp) (a1 : Int32) (a2 : Int32) (h : zHp) : Option zHp :=
  k133 a1 (a2 + (1 : Int32)) h
def s_X10_ask_L162 (k133 : Int32 → Int32 → zHp → Option zHp) : Nat → Int32 → Int32 → Int32 → zHp → Option zHp
  | 0, _, _, _, _ => none
  | f + 1, a1, a2, a3, h =>
  if (5 : Int32) ≤ a3 then
    (s_X10_costOf a2 ((h.1 67 0) + (7 : Int32)) h).bind fun q2 =>
    (zui q2.2 94 36 (((6 : Int32) * (h.1 67 32)) + (5 : Int32)) ((2 : Int32) * q2.1)).bind fun h3 =>
    (some ((h3.1 67 32) + (1 : Int32))).bind fun v4 =>
    (zpi h3 67 32 v4).bind fun h5 =>
    s_X10_ask_L236 k133 a1 a2 h5
  else
    (s_X10_costOf a2 ((h.1 67 0) + a3) h).bind fun q6 =>
    (zui q6.2 94 36 (((6 : Int32) * (h.1 67 32)) + a3) q6.1).bind fun h7 =>
    s_X10_ask_L162 k133 f a1 a2 (a3 + (1 : Int32)) h7
def s_X10_ask_L259 : Nat → Int32 → zHp → Option zHp
  | 0, _, _ => none
  | f + 1, a2, h =>
  if a2 < 0 then
    some h
  else
    (zri h 95 7 (a2 + (1 : Int32))).bind fun v2 =>
    (zri h 94 36 ((6 : Int32) * a2)).bind fun v3 =>
    (zui h 95 7 a2 (v2 + v3)).bind fun h4 =>
    s_X10_ask_L259 f (a2 + (-1 : Int32)) h4
def s_X10_ask_L133 : Nat → Int32 → Int32 → zHp → Option zHp
  | 0, _, _, _ => none
  | f + 1, a1, a2, h =>
  if (h.1 67 8) ≤ a2 then
    (zui h 95 7 (h.1 67 32) (0 : Int32)).bind fun h2 =>
    (some ((h2.1 67 32) - (1 : Int32))).bind fun v3 =>
    s_X10_ask_L259 zFU v3 h2
  else
    if ((a1 >>> (a2 &&& 31)) &&& (1 : Int32)) = (1 : Int32) then
      (zui h 93 6 (h.1 67 32) a2).bind fun h5 =>
      s_X10_ask_L162 (s_X10_ask_L133 f) zFU a1 a2 (0 : Int32) h5
    else
      s_X10_ask_L236 (s_X10_ask_L133 f) a1 a2 h
def s_X10_ask_L9 : Nat → Int32 → Int32 → zHp → Option zHp
  | 0, _, _, _ => none
  | f + 1, a1, a2, h =>
  if (6 : Int32) ≤ a2 then
    s_X10_ask_L133 zFU a1 (0 : Int32) h
  else
    s_X10_ask_L20 (s_X10_ask_L9 f) zFU a1 a2 (-1 : Int32) (0 : Int32) h
def s_X10_ask  (h : zHp) : Option zHp :=
  (zpi h 67 32 (0 : Int32)).bind fun h1 =>
  s_X10_ask_L9 zFU (0 : Int32) (0 : Int32) h1
set_option maxRecDepth 100000 in
set_option maxHeartbeats 4000000 in
theorem k_X10_ask_L104 {l : Launch} {D : va_G} {cy : Nat → ClassId} {S0 d : Nat} {J : zJ} (q : zHp) (hd : 6 ≤ d) (X : zOK l D cy S0 d RX10 cX10_ask 6 (yX10_ask.name == "<init>") 117 117 none (zRT 117 zRF none q) J) {k9 : Int32 → Int32 → zHp → Option zHp} (hk9 : ∀ (a1 : Int32) (a2 : Int32) (h : zHp), k9 a1 a2 h = some q → J 9 [(0, .ref 67), (1, .int a1), (2, .int a2)] [] 117 zRF h) {k20 : Int32 → Int32 → Int32 → Int32 → zHp → Option zHp} (hk20 : ∀ (a1 : Int32) (a2 : Int32) (a3 : Int32) (a4 : Int32) (h : zHp), k20 a1 a2 a3 a4 h = some q → J 20 [(0, .ref 67), (1, .int a1), (2, .int a2), (3, .int a3), (4, .int a4)] [] 117 zRF h) : ∀ (a1 : Int32) (a2 : Int32) (a4 : Int32) (b0 : Int32) (h : zHp), s_X10_ask_L104 k9 k20 a1 a2 a4 b0 h = some q → J 104 [(0, .ref 67), (1, .int a1), (2, .int a2), (4, .int a4)] [.int b0] 117 zRF h := by
  intro a1 a2 a4 b0 h e
  unfold s_X10_ask_L104 at e
  refine zv_istore_n (i := 3) (lv' := [(3, .int b0), (0, .ref 67), (1, .int a1), (2, .int a2), (4, .int a4)]) X dX10_ask_104 rfl (Nat.le_of_ble_eq_true rfl) rfl ?_
  refine zv_iinc (k := 4) (v := a4 + (1 : Int32)) (lv' := [(4, .int (a4 + (1 : Int32))), (3, .int b0), (0, .ref 67), (1, .int a1), (2, .int a2)]) X dX10_ask_105 rfl rfl (Nat.le_of_ble_eq_true rfl) rfl ?_
  refine zv_goto (tgt := 20) X dX10_ask_108 (by decide) ?_
  exact zv_pick X [2, 3, 4, 1, 0] rfl (hk20 _ _ _ _ _ e)
set_option maxRecDepth 100000 in
set_option maxHeartbeats 4000000 in
theorem k_X10_ask_L98 {l : Launch} {D : va_G} {cy : Nat → ClassId} {S0 d : Nat} {J : zJ} (q : zHp) (hd : 6 ≤ d) (X : zOK l D cy S0 d RX10 cX10_ask 6 (yX10_ask.name == "<init>") 117 117 none (zRT 117 zRF none q) J) {k9 : Int32 → Int32 → zHp → Option zHp} (hk9 : ∀ (a1 : Int32) (a2 : Int32) (h : zHp), k9 a1 a2 h = some q → J 9 [(0, .ref 67), (1, .int a1), (2, .int a2)] [] 117 zRF h) {k20 : Int32 → Int32 → Int32 → Int32 → zHp → Option zHp} (hk20 : ∀ (a1 : Int32) (a2 : Int32) (a3 : Int32) (a4 : Int32) (h : zHp), k20 a1 a2 a3 a4 h = some q → J 20 [(0, .ref 67), (1, .int a1), (2, .int a2), (3, .int a3), (4, .int a4)] [] 117 zRF h) : ∀ (a1 : Int32) (a2 : Int32) (a4 : Int32) (h : zHp), s_X10_ask_L98 k9 k20 a1 a2 a4 h = some q → J 98 [(0, .ref 67), (1, .int a1), (2, .int a2), (4, .int a4)] [] 117 zRF h := by
  intro a1 a2 a4 h e
  unfold s_X10_ask_L98 at e
  refine zv_iload X dX10_ask_98 rfl ?_
  refine zv_goto (tgt := 104) X dX10_ask_100 (by decide) ?_
  exact k_X10_ask_L104 q hd X hk9 hk20 _ _ _ _ _ e
set_option maxRecDepth 100000 in
set_option maxHeartbeats 4000000 in
theorem k_X10_ask_L103 {l : Launch} {D : va_G} {cy : Nat → ClassId} {S0 d : Nat} {J : zJ} (q : zHp) (hd : 6 ≤ d) (X : zOK l D cy S0 d RX10 cX10_ask 6 (yX10_ask.name == "<init>") 117 117 none (zRT 117 zRF none q) J) {k9 : Int32 → Int32 → zHp → Option zHp} (hk9 : ∀ (a1 : Int32) (a2 : Int32) (h : zHp), k9 a1 a2 h = some q → J 9 [(0, .ref 67), (1, .int a1), (2, .int a2)] [] 117 zRF h) {k20 : Int32 → Int32 → Int32 → Int32 → zHp → Option zHp} (hk20 : ∀ (a1 : Int32) (a2 : Int32) (a3 : Int32) (a4 : Int32) (h : zHp), k20 a1 a2 a3 a4 h = some q → J 20 [(0, .ref 67), (1, .int a1), (2, .int a2), (3, .int a3), (4, .int a4)] [] 117 zRF h) : ∀ (a1 : Int32) (a2 : Int32) (a3 : Int32) (a4 : Int32) (h : zHp), s_X10_ask_L103 k9 k20 a1 a2 a3 a4 h = some q → J 103 [(0, .ref 67), (1, .int a1), (2, .int a2), (3, .int a3), (4, .int a4)] [] 117 zRF h := by
  intro a1 a2 a3 a4 h e
  unfold s_X10_ask_L103 at e
  refine zv_iload_n X dX10_ask_103 rfl rfl ?_
  exact zv_pick X [0, 1, 2, 4] rfl (k_X10_ask_L104 q hd X hk9 hk20 _ _ _ _ _ e)
set_option maxRecDepth 100000 in
set_option maxHeartbeats 4000000 in
theorem k_X10_ask_L59 {l : Launch} {D : va_G} {cy : Nat → ClassId} {S0 d : Nat} {J : zJ} (q : zHp) (hd : 6 ≤ d) (X : zOK l D cy S0 d RX10 cX10_ask 6 (yX10_ask.name == "<init>") 117 117 none (zRT 117 zRF none q) J) {k9 : Int32 → Int32 → zHp → Option zHp} (hk9 : ∀ (a1 : Int32) (a2 : Int32) (h : zHp), k9 a1 a2 h = some q → J 9 [(0, .ref 67), (1, .int a1), (2, .int a2)] [] 117 zRF h) {k20 : Int32 → Int32 → Int32 → Int32 → zHp → Option zHp} (hk20 : ∀ (a1 : Int32) (a2 : Int32) (a3 : Int32) (a4 : Int32) (h : zHp), k20 a1 a2 a3 a4 h = some q → J 20 [(0, .ref 67), (1, .int a1), (2, .int a2), (3, .int a3), (4, .int a4)] [] 117 zRF h) : ∀ (a1 : Int32) (a2 : Int32) (a3 : Int32) (a4 : Int32) (b0 : Int32) (h : zHp), s_X10_ask_L59 k9 k20 a1 a2 a3 a4 b0 h = some q → J 59 [(0, .ref 67), (1, .int a1), (2, .int a2), (3, .int a3), (4, .int a4)] [.int b0] 117 zRF h := by
  intro a1 a2 a3 a4 b0 h e
  unfold s_X10_ask_L59 at e
  refine zv_istore (i := 5) (lv' := [(5, .int b0), (0, .ref 67), (1, .int a1), (2, .int a2), (3, .int a3), (4, .int a4)]) X dX10_ask_59 (Nat.le_of_ble_eq_true rfl) rfl ?_
  refine zv_iload X dX10_ask_61 rfl ?_
  refine zv_if_eq (tgt := 103) X dX10_ask_63 (by decide) (fun c1 => ?_) (fun c1 => ?_)
  · replace e := zit e c1
    exact zv_pick X [1, 2, 3, 4, 5] rfl (k_X10_ask_L103 q hd X hk9 hk20 _ _ _ _ _ e)
  · replace e := zif e c1
    refine zv_iload_n X dX10_ask_66 rfl rfl ?_
    refine zv_if_lt (tgt := 98) X dX10_ask_67 (by decide) (fun c2 => ?_) (fun c2 => ?_)
    · replace e := zit e c2
      exact zv_pick X [1, 2, 3, 5] rfl (k_X10_ask_L98 q hd X hk9 hk20 _ _ _ _ e)
    · replace e := zif e c2
      refine zv_aload_n X dX10_ask_70 rfl rfl ?_
      refine zv_iload X dX10_ask_71 rfl ?_
      refine zv_aload_n X dX10_ask_73 rfl rfl ?_
      refine zv_getI X zf_RX10_179 zk_67 zb_67 dX10_ask_74 ?_
      refine zv_bipush (v := (7 : Int32)) X dX10_ask_77 zbp_7 ?_
      refine zv_iadd X dX10_ask_79 ?_
      refine zb e (fun q3 gq3 e => ?_)
      refine zv_callV (stk := [.int ((h.1 67 0) + (7 : Int32)), .int a4, .ref 67]) (as := [.int a4, .int ((h.1 67 0) + (7 : Int32))]) (st := []) (k := 67) X zl_RX10_229 zm_X10_costOf (k_X10_costOf (d := d - 1) (by omega) gq3) (by omega) zb_67 (by rw [zk_67]; rfl) rfl rfl (Nat.le_of_ble_eq_true rfl) (Nat.le_refl _) rfl dX10_ask_80 ?_
      show J 83 [(5, .int b0), (0, .ref 67), (1, .int a1), (2, .int a2), (3, .int a3), (4, .int a4)] [.int q3.1] 117 zRF q3.2
      refine zv_aload_n X dX10_ask_83 rfl rfl ?_
      refine zv_iload_n X dX10_ask_84 rfl rfl ?_
      refine zv_aload_n X dX10_ask_85 rfl rfl ?_
      refine zv_getI X zf_RX10_179 zk_67 zb_67 dX10_ask_86 ?_
      refine zv_bipush (v := (7 : Int32)) X dX10_ask_89 zbp_7 ?_
      refine zv_iadd X dX10_ask_91 ?_
      refine zb e (fun q4 gq4 e => ?_)
      refine zv_callV (stk := [.int ((q3.2.1 67 0) + (7 : Int32)), .int a3, .ref 67, .int q3.1]) (as := [.int a3, .int ((q3.2.1 67 0) + (7 : Int32))]) (st := [.int q3.1]) (k := 67) X zl_RX10_229 zm_X10_costOf (k_X10_costOf (d := d - 1) (by omega) gq4) (by omega) zb_67 (by rw [zk_67]; rfl) rfl rfl (Nat.le_of_ble_eq_true rfl) (Nat.le_refl _) rfl dX10_ask_92 ?_
      show J 95 [(5, .int b0), (0, .ref 67), (1, .int a1), (2, .int a2), (3, .int a3), (4, .int a4)] [.int q4.1, .int q3.1] 117 zRF q4.2
      refine zv_icmp_le (tgt := 103) X dX10_ask_95 (by decide) (fun c5 => ?_) (fun c5 => ?_)
      · replace e := zit e c5
        exact zv_pick X [1, 2, 3, 4, 5] rfl (k_X10_ask_L103 q hd X hk9 hk20 _ _ _ _ _ e)
      · replace e := zif e c5
        exact zv_pick X [1, 2, 3, 5] rfl (k_X10_ask_L98 q hd X hk9 hk20 _ _ _ _ e)
set_option maxRecDepth 100000 in
set_option maxHeartbeats 4000000 in
theorem k_X10_ask_L58 {l : Launch} {D : va_G} {cy : Nat → ClassId} {S0 d : Nat} {J : zJ} (q : zHp) (hd : 6 ≤ d) (X : zOK l D cy S0 d RX10 cX10_ask 6 (yX10_ask.name == "<init>") 117 117 none (zRT 117 zRF none q) J) {k9 : Int32 → Int32 → zHp → Option zHp} (hk9 : ∀ (a1 : Int32) (a2 : Int32) (h : zHp), k9 a1 a2 h = some q → J 9 [(0, .ref 67), (1, .int a1), (2, .int a2)] [] 117 zRF h) {k20 : Int32 → Int32 → Int32 → Int32 → zHp → Option zHp} (hk20 : ∀ (a1 : Int32) (a2 : Int32) (a3 : Int32) (a4 : Int32) (h : zHp), k20 a1 a2 a3 a4 h = some q → J 20 [(0, .ref 67), (1, .int a1), (2, .int a2), (3, .int a3), (4, .int a4)] [] 117 zRF h) : ∀ (a1 : Int32) (a2 : Int32) (a3 : Int32) (a4 : Int32) (h : zHp), s_X10_ask_L58 k9 k20 a1 a2 a3 a4 h = some q → J 58 [(0, .ref 67), (1, .int a1), (2, .int a2), (3, .int a3), (4, .int a4)] [] 117 zRF h := by
  intro a1 a2 a3 a4 h e
  unfold s_X10_ask_L58 at e
  refine zv_iconst (v := (0 : Int32)) X dX10_ask_58 zic_0 ?_
  exact k_X10_ask_L59 q hd X hk9 hk20 _ _ _ _ _ _ e
set_option maxRecDepth 100000 in
set_option maxHeartbeats 4000000 in
theorem k_X10_ask_L123 {l : Launch} {D : va_G} {cy : Nat → ClassId} {S0 d : Nat} {J : zJ} (q : zHp) (hd : 6 ≤ d) (X : zOK l D cy S0 d RX10 cX10_ask 6 (yX10_ask.name == "<init>") 117 117 none (zRT 117 zRF none q) J) {k9 : Int32 → Int32 → zHp → Option zHp} (hk9 : ∀ (a1 : Int32) (a2 : Int32) (h : zHp), k9 a1 a2 h = some q → J 9 [(0, .ref 67), (1, .int a1), (2, .int a2)] [] 117 zRF h) : ∀ (a2 : Int32) (b0 : Int32) (b1 : Int32) (h : zHp), s_X10_ask_L123 k9 a2 b0 b1 h = some q → J 123 [(0, .ref 67), (2, .int a2)] [.int b1, .int b0] 117 zRF h := by
  intro a2 b0 b1 h e
  unfold s_X10_ask_L123 at e
  refine zv_ior X dX10_ask_123 ?_
  refine zb e (fun v1 gv1 e => ?_)
  refine zv_nmI X gv1 ?_
  refine zv_istore_n (i := 1) (lv' := [(1, .int v1), (0, .ref 67), (2, .int a2)]) X dX10_ask_124 rfl (Nat.le_of_ble_eq_true rfl) rfl ?_
  refine zv_iinc (k := 2) (v := a2 + (1 : Int32)) (lv' := [(2, .int (a2 + (1 : Int32))), (1, .int v1), (0, .ref 67)]) X dX10_ask_125 rfl rfl (Nat.le_of_ble_eq_true rfl) rfl ?_
  refine zv_goto (tgt := 9) X dX10_ask_128 (by decide) ?_
  exact zv_pick X [2, 1, 0] rfl (hk9 _ _ _ e)
set_option maxRecDepth 100000 in
set_option maxHeartbeats 4000000 in
theorem k_X10_ask_L20 {l : Launch} {D : va_G} {cy : Nat → ClassId} {S0 d : Nat} {J : zJ} (q : zHp) (hd : 6 ≤ d) (X : zOK l D cy S0 d RX10 cX10_ask 6 (yX10_ask.name == "<init>") 117 117 none (zRT 117 zRF none q) J) {k9 : Int32 → Int32 → zHp → Option zHp} (hk9 : ∀ (a1 : Int32) (a2 : Int32) (h : zHp), k9 a1 a2 h = some q → J 9 [(0, .ref 67), (1, .int a1), (2, .int a2)] [] 117 zRF h) : ∀ (f : Nat) (a1 : Int32) (a2 : Int32) (a3 : Int32) (a4 : Int32) (h : zHp), s_X10_ask_L20 k9 f a1 a2 a3 a4 h = some q → J 20 [(0, .ref 67), (1, .int a1), (2, .int a2), (3, .int a3), (4, .int a4)] [] 117 zRF h := by
  intro f
  induction f with
  | zero => intro _ _ _ _ h e; exact absurd e (fun z => by cases z)
  | succ f ih =>
    intro a1 a2 a3 a4 h e
    rw [s_X10_ask_L20] at e
    refine zv_iload X dX10_ask_20 rfl ?_
    refine zv_aload_n X dX10_ask_22 rfl rfl ?_
    refine zv_getI X zf_RX10_165 zk_67 zb_67 dX10_ask_23 ?_
    refine zv_icmp_ge (tgt := 111) X dX10_ask_26 (by decide) (fun c1 => ?_) (fun c1 => ?_)
    · replace e := zit e c1
      refine zv_iload_n X dX10_ask_111 rfl rfl ?_
      refine zv_iload_n X dX10_ask_112 rfl rfl ?_
      refine zv_if_ge (tgt := 120) X dX10_ask_113 (by decide) (fun c2 => ?_) (fun c2 => ?_)
      · replace e := zit e c2
        refine zv_iconst (v := (1 : Int32)) X dX10_ask_120 zic_1 ?_
        refine zv_iload_n X dX10_ask_121 rfl rfl ?_
        refine zv_ishl X dX10_ask_122 ?_
        exact zv_pick X [0, 2] rfl (k_X10_ask_L123 q hd X hk9 _ _ _ _ e)
      · replace e := zif e c2
        refine zv_iconst (v := (0 : Int32)) X dX10_ask_116 zic_0 ?_
        refine zv_goto (tgt := 123) X dX10_ask_117 (by decide) ?_
        exact zv_pick X [0, 2] rfl (k_X10_ask_L123 q hd X hk9 _ _ _ _ e)
    · replace e := zif e c1
      refine zv_iload_n X dX10_ask_29 rfl rfl ?_
      refine zv_iload X dX10_ask_30 rfl ?_
      refine zv_ishr X dX10_ask_32 ?_
      refine zv_iconst (v := (1 : Int32)) X dX10_ask_33 zic_1 ?_
      refine zv_iand X dX10_ask_34 ?_
      refine zv_if_ne (tgt := 58) X dX10_ask_35 (by decide) (fun c3 => ?_) (fun c3 => ?_)
      · replace e := zif e c3
        exact k_X10_ask_L58 q hd X hk9 ih _ _ _ _ _ e
      · replace e := zit e c3
        refine zv_aload_n X dX10_ask_38 rfl rfl ?_
        refine zv_iload X dX10_ask_39 rfl ?_
        refine zb e (fun q4 gq4 e => ?_)
        refine zv_callV (stk := [.int a4, .ref 67]) (as := [.int a4]) (st := []) (k := 67) X zl_RX10_226 zm_X10_dueOf (k_X10_dueOf (d := d - 1) (by omega) gq4) (by omega) zb_67 (by rw [zk_67]; rfl) rfl rfl (Nat.le_of_ble_eq_true rfl) (Nat.le_refl _) rfl dX10_ask_41 ?_
        show J 44 [(0, .ref 67), (1, .int a1), (2, .int a2), (3, .int a3), (4, .int a4)] [.int q4.1] 117 zRF q4.2
        refine zv_aload_n X dX10_ask_44 rfl rfl ?_
        refine zv_getI X zf_RX10_179 zk_67 zb_67 dX10_ask_45 ?_
        refine zv_bipush (v := (7 : Int32)) X dX10_ask_48 zbp_7 ?_
        refine zv_iadd X dX10_ask_50 ?_
        refine zv_icmp_ge (tgt := 58) X dX10_ask_51 (by decide) (fun c5 => ?_) (fun c5 => ?_)
        · replace e := zit e c5
          exact k_X10_ask_L58 q hd X hk9 ih _ _ _ _ _ e
        · replace e := zif e c5
          refine zv_iconst (v := (1 : Int32)) X dX10_ask_54 zic_1 ?_
          refine zv_goto (tgt := 59) X dX10_ask_55 (by decide) ?_
          exact k_X10_ask_L59 q hd X hk9 ih _ _ _ _ _ _ e
set_option maxRecDepth 100000 in
set_option maxHeartbeats 4000000 in
theorem k_X10_ask_L236 {l : Launch} {D : va_G} {cy : Nat → ClassId} {S0 d : Nat} {J : zJ} (q : zHp) (hd : 6 ≤ d) (X : zOK l D cy S0 d RX10 cX10_ask 6 (yX10_ask.name == "<init>") 117 117 none (zRT 117 zRF none q) J) {k133 : Int32 → Int32 → zHp → Option zHp} (hk133 : ∀ (a1 : Int32) (a2 : Int32) (h : zHp), k133 a1 a2 h = some q → J 133 [(0, .ref 67), (1, .int a1), (2, .int a2)] [] 117 zRF h) : ∀ (a1 : Int32) (a2 : Int32) (h : zHp), s_X10_ask_L236 k133 a1 a2 h = some q → J 236 [(0, .ref 67), (1, .int a1), (2, .int a2)] [] 117 zRF h := by
  intro a1 a2 h e
  unfold s_X10_ask_L236 at e
  refine zv_iinc (k := 2) (v := a2 + (1 : Int32)) (lv' := [(2, .int (a2 + (1 : Int32))), (0, .ref 67), (1, .int a1)]) X dX10_ask_236 rfl rfl (Nat.le_of_ble_eq_true rfl) rfl ?_
  refine zv_goto (tgt := 133) X dX10_ask_239 (by decide) ?_
  exact zv_pick X [1, 2, 0] rfl (hk133 _ _ _ e)
set_option maxRecDepth 100000 in
set_option maxHeartbeats 4000000 in
theorem k_X10_ask_L162 {l : Launch} {D : va_G} {cy : Nat → ClassId} {S0 d : Nat} {J : zJ} (q : zHp) (hd : 6 ≤ d) (X : zOK l D cy S0 d RX10 cX10_ask 6 (yX10_ask.name == "<init>") 117 117 none (zRT 117 zRF none q) J) {k133 : Int32 → Int32 → zHp → Option zHp} (hk133 : ∀ (a1 : Int32) (a2 : Int32) (h : zHp), k133 a1 a2 h = some q → J 133 [(0, .ref 67), (1, .int a1), (2, .int a2)] [] 117 zRF h) : ∀ (f : Nat) (a1 : Int32) (a2 : Int32) (a3 : Int32) (h : zHp), s_X10_ask_L162 k133 f a1 a2 a3 h = some q → J 162 [(0, .ref 67), (1, .int a1), (2, .int a2), (3, .int a3)] [] 117 zRF h := by
  intro f
  induction f with
  | zero => intro _ _ _ h e; exact absurd e (fun z => by cases z)
  | succ f ih =>
    intro a1 a2 a3 h e
    rw [s_X10_ask_L162] at e
    refine zv_iload_n X dX10_ask_162 rfl rfl ?_
    refine zv_iconst (v := (5 : Int32)) X dX10_ask_163 zic_5 ?_
    refine zv_icmp_ge (tgt := 198) X dX10_ask_164 (by decide) (fun c1 => ?_) (fun c1 => ?_)
    · replace e := zit e c1
      refine zv_aload_n X dX10_ask_198 rfl rfl ?_
      refine zv_getR X zf_RX10_93 znt_a zk_67 zb_67 zr_67_33 dX10_ask_199 ?_
      refine zv_bipush (v := (6 : Int32)) X dX10_ask_202 zbp_6 ?_
      refine zv_aload_n X dX10_ask_204 rfl rfl ?_
      refine zv_getI X zf_RX10_232 zk_67 zb_67 dX10_ask_205 ?_
      refine zv_imul X dX10_ask_208 ?_
      refine zv_iconst (v := (5 : Int32)) X dX10_ask_209 zic_5 ?_
      refine zv_iadd X dX10_ask_210 ?_
      refine zv_iconst (v := (2 : Int32)) X dX10_ask_211 zic_2 ?_
      refine zv_aload_n X dX10_ask_212 rfl rfl ?_
      refine zv_iload_n X dX10_ask_213 rfl rfl ?_
      refine zv_aload_n X dX10_ask_214 rfl rfl ?_
      refine zv_getI X zf_RX10_179 zk_67 zb_67 dX10_ask_215 ?_
      refine zv_bipush (v := (7 : Int32)) X dX10_ask_218 zbp_7 ?_
      refine zv_iadd X dX10_ask_220 ?_
      refine zb e (fun q2 gq2 e => ?_)
      refine zv_callV (stk := [.int ((h.1 67 0) + (7 : Int32)), .int a2, .ref 67, .int (2 : Int32), .int (((6 : Int32) * (h.1 67 32)) + (5 : Int32)), .ref 94]) (as := [.int a2, .int ((h.1 67 0) + (7 : Int32))]) (st := [.int (2 : Int32), .int (((6 : Int32) * (h.1 67 32)) + (5 : Int32)), .ref 94]) (k := 67) X zl_RX10_229 zm_X10_costOf (k_X10_costOf (d := d - 1) (by omega) gq2) (by omega) zb_67 (by rw [zk_67]; rfl) rfl rfl (Nat.le_of_ble_eq_true rfl) (Nat.le_refl _) rfl dX10_ask_221 ?_
      show J 224 [(0, .ref 67), (1, .int a1), (2, .int a2), (3, .int a3)] [.int q2.1, .int (2 : Int32), .int (((6 : Int32) * (h.1 67 32)) + (5 : Int32)), .ref 94] 117 zRF q2.2
      refine zv_imul X dX10_ask_224 ?_
      refine zb e (fun h3 gh3 e => ?_)
      refine zv_iast X zk_94 zl_94 zb_94 dX10_ask_225 gh3 ?_
      refine zv_aload_n X dX10_ask_226 rfl rfl ?_
      refine zv_dup_r X dX10_ask_227 ?_
      refine zv_getI X zf_RX10_232 zk_67 zb_67 dX10_ask_228 ?_
      refine zv_iconst (v := (1 : Int32)) X dX10_ask_231 zic_1 ?_
      refine zv_iadd X dX10_ask_232 ?_
      refine zb e (fun v4 gv4 e => ?_)
      refine zv_nmI X gv4 ?_
      refine zb e (fun h5 gh5 e => ?_)
      refine zv_putI' X zf_RX10_232 zk_67 zb_67 dX10_ask_233 gh5 ?_
      exact zv_pick X [0, 1, 2] rfl (k_X10_ask_L236 q hd X hk133 _ _ _ e)
    · replace e := zif e c1
      refine zv_aload_n X dX10_ask_167 rfl rfl ?_
      refine zv_getR X zf_RX10_93 znt_a zk_67 zb_67 zr_67_33 dX10_ask_168 ?_
      refine zv_bipush (v := (6 : Int32)) X dX10_ask_171 zbp_6 ?_
      refine zv_aload_n X dX10_ask_173 rfl rfl ?_
      refine zv_getI X zf_RX10_232 zk_67 zb_67 dX10_ask_174 ?_
      refine zv_imul X dX10_ask_177 ?_
      refine zv_iload_n X dX10_ask_178 rfl rfl ?_
      refine zv_iadd X dX10_ask_179 ?_
      refine zv_aload_n X dX10_ask_180 rfl rfl ?_
      refine zv_iload_n X dX10_ask_181 rfl rfl ?_
      refine zv_aload_n X dX10_ask_182 rfl rfl ?_
      refine zv_getI X zf_RX10_179 zk_67 zb_67 dX10_ask_183 ?_
      refine zv_iload_n X dX10_ask_186 rfl rfl ?_
      refine zv_iadd X dX10_ask_187 ?_
      refine zb e (fun q6 gq6 e => ?_)
      refine zv_callV (stk := [.int ((h.1 67 0) + a3), .int a2, .ref 67, .int (((6 : Int32) * (h.1 67 32)) + a3), .ref 94]) (as := [.int a2, .int ((h.1 67 0) + a3)]) (st := [.int (((6 : Int32) * (h.1 67 32)) + a3), .ref 94]) (k := 67) X zl_RX10_229 zm_X10_costOf (k_X10_costOf (d := d - 1) (by omega) gq6) (by omega) zb_67 (by rw [zk_67]; rfl) rfl rfl (Nat.le_of_ble_eq_true rfl) (Nat.le_refl _) rfl dX10_ask_188 ?_
      show J 191 [(0, .ref 67), (1, .int a1), (2, .int a2), (3, .int a3)] [.int q6.1, .int (((6 : Int32) * (h.1 67 32)) + a3), .ref 94] 117 zRF q6.2
      refine zb e (fun h7 gh7 e => ?_)
      refine zv_iast X zk_94 zl_94 zb_94 dX10_ask_191 gh7 ?_
      refine zv_iinc (k := 3) (v := a3 + (1 : Int32)) (lv' := [(3, .int (a3 + (1 : Int32))), (0, .ref 67), (1, .int a1), (2, .int a2)]) X dX10_ask_192 rfl rfl (Nat.le_of_ble_eq_true rfl) rfl ?_
      refine zv_goto (tgt := 162) X dX10_ask_195 (by decide) ?_
      exact zv_pick X [1, 2, 3, 0] rfl (ih _ _ _ _ e)
set_option maxRecDepth 100000 in
set_option maxHeartbeats 4000000 in
theorem k_X10_ask_L259 {l : Launch} {D : va_G} {cy : Nat → ClassId} {S0 d : Nat} {J : zJ} (q : zHp) (hd : 6 ≤ d) (X : zOK l D cy S0 d RX10 cX10_ask 6 (yX10_ask.name == "<init>") 117 117 none (zRT 117 zRF none q) J) : ∀ (f : Nat) (a2 : Int32) (h : zHp), s_X10_ask_L259 f a2 h = some q → J 259 [(0, .ref 67), (2, .int a2)] [] 117 zRF h := by
  intro f
  induction f with
  | zero => intro _ h e; exact absurd e (fun z => by cases z)
  | succ f ih =>
    intro a2 h e
    rw [s_X10_ask_L259] at e
    refine zv_iload_n X dX10_ask_259 rfl rfl ?_
    refine zv_if_lt (tgt := 293) X dX10_ask_260 (by decide) (fun c1 => ?_) (fun c1 => ?_)
    · replace e := zit e c1
      exact zv_retV X e rfl dX10_ask_293
    · replace e := zif e c1
      refine zv_aload_n X dX10_ask_263 rfl rfl ?_
      refine zv_getR X zf_RX10_96 znt_a zk_67 zb_67 zr_67_34 dX10_ask_264 ?_
      refine zv_iload_n X dX10_ask_267 rfl rfl ?_
      refine zv_aload_n X dX10_ask_268 rfl rfl ?_
      refine zv_getR X zf_RX10_96 znt_a zk_67 zb_67 zr_67_34 dX10_ask_269 ?_
      refine zv_iload_n X dX10_ask_272 rfl rfl ?_
      refine zv_iconst (v := (1 : Int32)) X dX10_ask_273 zic_1 ?_
      refine zv_iadd X dX10_ask_274 ?_
      refine zb e (fun v2 gv2 e => ?_)
      refine zv_iald X zk_95 zl_95 zb_95 dX10_ask_275 gv2 ?_
      refine zv_aload_n X dX10_ask_276 rfl rfl ?_
      refine zv_getR X zf_RX10_93 znt_a zk_67 zb_67 zr_67_33 dX10_ask_277 ?_
      refine zv_bipush (v := (6 : Int32)) X dX10_ask_280 zbp_6 ?_
      refine zv_iload_n X dX10_ask_282 rfl rfl ?_
      refine zv_imul X dX10_ask_283 ?_
      refine zb e (fun v3 gv3 e => ?_)
      refine zv_iald X zk_94 zl_94 zb_94 dX10_ask_284 gv3 ?_
      refine zv_iadd X dX10_ask_285 ?_
      refine zb e (fun h4 gh4 e => ?_)
      refine zv_iast X zk_95 zl_95 zb_95 dX10_ask_286 gh4 ?_
      refine zv_iinc (k := 1) (v := a2 + (-1 : Int32)) (lv' := [(2, .int (a2 + (-1 : Int32))), (0, .ref 67)]) X dX10_ask_287 rfl rfl (Nat.le_of_ble_eq_true rfl) rfl ?_
      refine zv_goto (tgt := 259) X dX10_ask_290 (by decide) ?_
      exact zv_pick X [1, 0] rfl (ih _ _ e)
set_option maxRecDepth 100000 in
set_option maxHeartbeats 4000000 in
theorem k_X10_ask_L133 {l : Launch} {D : va_G} {cy : Nat → ClassId} {S0 d : Nat} {J : zJ} (q : zHp) (hd : 6 ≤ d) (X : zOK l D cy S0 d RX10 cX10_ask 6 (yX10_ask.name == "<init>") 117 117 none (zRT 117 zRF none q) J) : ∀ (f : Nat) (a1 : Int32) (a2 : Int32) (h : zHp), s_X10_ask_L133 f a1 a2 h = some q → J 133 [(0, .ref 67), (1, .int a1), (2, .int a2)] [] 117 zRF h := by
  intro f
  induction f with
  | zero => intro _ _ h e; exact absurd e (fun z => by cases z)
  | succ f ih =>
    intro a1 a2 h e
    rw [s_X10_ask_L133] at e
    refine zv_iload_n X dX10_ask_133 rfl rfl ?_
    refine zv_aload_n X dX10_ask_134 rfl rfl ?_
    refine zv_getI X zf_RX10_165 zk_67 zb_67 dX10_ask_135 ?_
    refine zv_icmp_ge (tgt := 242) X dX10_ask_138 (by decide) (fun c1 => ?_) (fun c1 => ?_)
    · replace e := zit e c1
      refine zv_aload_n X dX10_ask_242 rfl rfl ?_
      refine zv_getR X zf_RX10_96 znt_a zk_67 zb_67 zr_67_34 dX10_ask_243 ?_
      refine zv_aload_n X dX10_ask_246 rfl rfl ?_
      refine zv_getI X zf_RX10_232 zk_67 zb_67 dX10_ask_247 ?_
      refine zv_iconst (v := (0 : Int32)) X dX10_ask_250 zic_0 ?_
      refine zb e (fun h2 gh2 e => ?_)
      refine zv_iast X zk_95 zl_95 zb_95 dX10_ask_251 gh2 ?_
      refine zv_aload_n X dX10_ask_252 rfl rfl ?_
      refine zv_getI X zf_RX10_232 zk_67 zb_67 dX10_ask_253 ?_
      refine zv_iconst (v := (1 : Int32)) X dX10_ask_256 zic_1 ?_
      refine zv_isub X dX10_ask_257 ?_
      refine zb e (fun v3 gv3 e => ?_)
      refine zv_nmI X gv3 ?_
      refine zv_istore_n (i := 2) (lv' := [(2, .int v3), (0, .ref 67), (1, .int a1)]) X dX10_ask_258 rfl (Nat.le_of_ble_eq_true rfl) rfl ?_
      exact zv_pick X [1, 0] rfl (k_X10_ask_L259 q hd X _ _ _ e)
    · replace e := zif e c1
      refine zv_iload_n X dX10_ask_141 rfl rfl ?_
      refine zv_iload_n X dX10_ask_142 rfl rfl ?_
      refine zv_ishr X dX10_ask_143 ?_
      refine zv_iconst (v := (1 : Int32)) X dX10_ask_144 zic_1 ?_
      refine zv_iand X dX10_ask_145 ?_
      refine zv_iconst (v := (1 : Int32)) X dX10_ask_146 zic_1 ?_
      refine zv_icmp_ne (tgt := 236) X dX10_ask_147 (by decide) (fun c4 => ?_) (fun c4 => ?_)
      · replace e := zif e c4
        exact k_X10_ask_L236 q hd X ih _ _ _ e
      · replace e := zit e c4
        refine zv_aload_n X dX10_ask_150 rfl rfl ?_
        refine zv_getR X zf_RX10_90 znt_a zk_67 zb_67 zr_67_31 dX10_ask_151 ?_
        refine zv_aload_n X dX10_ask_154 rfl rfl ?_
        refine zv_getI X zf_RX10_232 zk_67 zb_67 dX10_ask_155 ?_
        refine zv_iload_n X dX10_ask_158 rfl rfl ?_
        refine zb e (fun h5 gh5 e => ?_)
        refine zv_iast X zk_93 zl_93 zb_93 dX10_ask_159 gh5 ?_
        refine zv_iconst (v := (0 : Int32)) X dX10_ask_160 zic_0 ?_
        refine zv_istore_n (i := 3) (lv' := [(3, .int (0 : Int32)), (0, .ref 67), (1, .int a1), (2, .int a2)]) X dX10_ask_161 rfl (Nat.le_of_ble_eq_true rfl) rfl ?_
        exact zv_pick X [1, 2, 3, 0] rfl (k_X10_ask_L162 q hd X ih _ _ _ _ _ e)
set_option maxRecDepth 100000 in
set_option maxHeartbeats 4000000 in
theorem k_X10_ask_L9 {l : Launch} {D : va_G} {cy : Nat → ClassId} {S0 d : Nat} {J : zJ} (q : zHp) (hd : 6 ≤ d) (X : zOK l D cy S0 d RX10 cX10_ask 6 (yX10_ask.name == "<init>") 117 117 none (zRT 117 zRF none q) J) : ∀ (f : Nat) (a1 : Int32) (a2 : Int32) (h : zHp), s_X10_ask_L9 f a1 a2 h = some q → J 9 [(0, .ref 67), (1, .int a1), (2, .int a2)] [] 117 zRF h := by
  intro f
  induction f with
  | zero => intro _ _ h e; exact absurd e (fun z => by cases z)
  | succ f ih =>
    intro a1 a2 h e
    rw [s_X10_ask_L9] at e
    refine zv_iload_n X dX10_ask_9 rfl rfl ?_
    refine zv_bipush (v := (6 : Int32)) X dX10_ask_10 zbp_6 ?_
    refine zv_icmp_ge (tgt := 131) X dX10_ask_12 (by decide) (fun c1 => ?_) (fun c1 => ?_)
    · replace e := zit e c1
      refine zv_iconst (v := (0 : Int32)) X dX10_ask_131 zic_0 ?_
      refine zv_istore_n (i := 2) (lv' := [(2, .int (0 : Int32)), (0, .ref 67), (1, .int a1)]) X dX10_ask_132 rfl (Nat.le_of_ble_eq_true rfl) rfl ?_
      exact zv_pick X [1, 2, 0] rfl (k_X10_ask_L133 q hd X _ _ _ _ e)
    · replace e := zif e c1
      refine zv_iconst (v := (-1 : Int32)) X dX10_ask_15 zic_m1 ?_
      refine zv_istore_n (i := 3) (lv' := [(3, .int (-1 : Int32)), (0, .ref 67), (1, .int a1), (2, .int a2)]) X dX10_ask_16 rfl (Nat.le_of_ble_eq_true rfl) rfl ?_
      refine zv_iconst (v := (0 : Int32)) X dX10_ask_17 zic_0 ?_
      refine zv_istore (i := 4) (lv' := [(4, .int (0 : Int32)), (3, .int (-1 : Int32)), (0, .ref 67), (1, .int a1), (2, .int a2)]) X dX10_ask_18 (Nat.le_of_ble_eq_true rfl) rfl ?_
      exact zv_pick X [2, 3, 4, 1, 0] rfl (k_X10_ask_L20 q hd X ih _ _ _ _ _ _ e)
set_option maxRecDepth 100000 in
set_option maxHeartbeats 4000000 in
theorem k_X10_ask {l : Launch} {D : va_G} {cy : Nat → ClassId} {S0 d : Nat} (hd : 6 ≤ d) {h : zHp} {q : zHp} (e : s_X10_ask  h = some q) : zCT l D cy S0 d yX10_ask cX10_ask 6 none [.ref 67] 117 zRF h none 117 zRF q := by
  unfold s_X10_ask at e
  refine zCT_of RX10 rfl zm_X10_ask (Nat.le_refl _) (Nat.le_of_ble_eq_true rfl) (fun J X => ?_)
  show J 0 [(0, .ref 67)] [] 117 zRF h
  refine zv_aload_n X dX10_ask_0 rfl rfl ?_
  refine zv_iconst (v := (0 : Int32)) X dX10_ask_1 zic_0 ?_
  refine zb e (fun h1 gh1 e => ?_)
  refine zv_putI' X zf_RX10_232 zk_67 zb_67 dX10_ask_2 gh1 ?_
  refine zv_iconst (v := (0 : Int32)) X dX10_ask_5 zic_0 ?_
  refine zv_istore_n (i := 1) (lv' := [(1, .int (0 : Int32)), (0, .ref 67)]) X dX10_ask_6 rfl (Nat.le_of_ble_eq_true rfl) rfl ?_
  refine zv_iconst (v := (0 : Int32)) X dX10_ask_7 zic_0 ?_
  refine zv_istore_n (i := 2) (lv' := [(2, .int (0 : Int32)), (1, .int (0 : Int32)), (0, .ref 67)]) X dX10_ask_8 rfl (Nat.le_of_ble_eq_true rfl) rfl ?_
  exact zv_pick X [2, 1, 0] rfl (k_X10_ask_L9 q hd X _ _ _ _ e)
-- X10_use
def s_X10_use_L45  (h : zHp) : Option zHp :=
  some h
def s_X10_use_L2 : Nat → Int32 → Int32 → Int32 → zHp → Option zHp
  | 0, _, _, _, _ => none
  | f + 1, a1, a2, a3, h =>
  if (3 : Int32) ≤ a3 then
    s_X10_use_L45 h
  else
    if (40 : Int32) ≤ a1 then
      s_X10_use_L45 h
    else
      (zdiv a1 (8 : Int32)).bind fun v3 =>
      (some (((3 : Int32) * v3) + a3)).bind fun v4 =>
      (zri h 99 15 v4).bind fun v5 =>
      (zrem a1 (8 : Int32)).bind fun v6 =>
      (zui h 99 15 v4 (v5 + (((v6 >>> (a3 &&& 31)) &&& (1 : Int32)) * a2))).bind fun h7 =>
      s_X10_use_L2 f a1 a2 (a3 + (1 : Int32)) h7
def s_X10_use (a1 : Int32) (a2 : Int32) (h : zHp) : Option zHp :=
  s_X10_use_L2 zFU a1 a2 (0 : Int32) h
set_option maxRecDepth 100000 in
set_option maxHeartbeats 4000000 in
theorem k_X10_use_L45 {l : Launch} {D : va_G} {cy : Nat → ClassId} {S0 d : Nat} {J : zJ} (q : zHp) (hd : 0 ≤ d) (X : zOK l D cy S0 d RX10 cX10_use 4 (yX10_use.name == "<init>") 117 117 none (zRT 117 zRF none q) J) : ∀  (h : zHp), s_X10_use_L45  h = some q → J 45 [] [] 117 zRF h := by
  intro  h e
  unfold s_X10_use_L45 at e
  exact zv_retV X e rfl dX10_use_45
set_option maxRecDepth 100000 in
set_option maxHeartbeats 4000000 in
theorem k_X10_use_L2 {l : Launch} {D : va_G} {cy : Nat → ClassId} {S0 d : Nat} {J : zJ} (q : zHp) (hd : 0 ≤ d) (X : zOK l D cy S0 d RX10 cX10_use 4 (yX10_use.name == "<init>") 117 117 none (zRT 117 zRF none q) J) : ∀ (f : Nat) (a1 : Int32) (a2 : Int32) (a3 : Int32) (h : zHp), s_X10_use_L2 f a1 a2 a3 h = some q → J 2 [(0, .ref 67), (1, .int a1), (2, .int a2), (3, .int a3)] [] 117 zRF h := by
  intro f
  induction f with
  | zero => intro _ _ _ h e; exact absurd e (fun z => by cases z)
  | succ f ih =>
    intro a1 a2 a3 h e
    rw [s_X10_use_L2] at e
    refine zv_iload_n X dX10_use_2 rfl rfl ?_
    refine zv_iconst (v := (3 : Int32)) X dX10_use_3 zic_3 ?_
    refine zv_icmp_ge (tgt := 45) X dX10_use_4 (by decide) (fun c1 => ?_) (fun c1 => ?_)
    · replace e := zit e c1
      exact zv_pick X [] rfl (k_X10_use_L45 q hd X  _ e)
    · replace e := zif e c1
      refine zv_iload_n X dX10_use_7 rfl rfl ?_
      refine zv_bipush (v := (40 : Int32)) X dX10_use_8 zbp_40 ?_
      refine zv_icmp_ge (tgt := 45) X dX10_use_10 (by decide) (fun c2 => ?_) (fun c2 => ?_)
      · replace e := zit e c2
        exact zv_pick X [] rfl (k_X10_use_L45 q hd X  _ e)
      · replace e := zif e c2
        refine zv_aload_n X dX10_use_13 rfl rfl ?_
        refine zv_getR X zf_RX10_108 znt_a zk_67 zb_67 zr_67_38 dX10_use_14 ?_
        refine zv_iconst (v := (3 : Int32)) X dX10_use_17 zic_3 ?_
        refine zv_iload_n X dX10_use_18 rfl rfl ?_
        refine zv_bipush (v := (8 : Int32)) X dX10_use_19 zbp_8 ?_
        refine zb e (fun v3 gv3 e => ?_)
        refine zv_idiv X dX10_use_21 gv3 ?_
        refine zv_imul X dX10_use_22 ?_
        refine zv_iload_n X dX10_use_23 rfl rfl ?_
        refine zv_iadd X dX10_use_24 ?_
        refine zb e (fun v4 gv4 e => ?_)
        refine zv_nmI X gv4 ?_
        refine zv_dup2 X dX10_use_25 ?_
        refine zb e (fun v5 gv5 e => ?_)
        refine zv_iald X zk_99 zl_99 zb_99 dX10_use_26 gv5 ?_
        refine zv_iload_n X dX10_use_27 rfl rfl ?_
        refine zv_bipush (v := (8 : Int32)) X dX10_use_28 zbp_8 ?_
        refine zb e (fun v6 gv6 e => ?_)
        refine zv_irem X dX10_use_30 gv6 ?_
        refine zv_iload_n X dX10_use_31 rfl rfl ?_
        refine zv_ishr X dX10_use_32 ?_
        refine zv_iconst (v := (1 : Int32)) X dX10_use_33 zic_1 ?_
        refine zv_iand X dX10_use_34 ?_
        refine zv_iload_n X dX10_use_35 rfl rfl ?_
        refine zv_imul X dX10_use_36 ?_
        refine zv_iadd X dX10_use_37 ?_
        refine zb e (fun h7 gh7 e => ?_)
        refine zv_iast X zk_99 zl_99 zb_99 dX10_use_38 gh7 ?_
        refine zv_iinc (k := 3) (v := a3 + (1 : Int32)) (lv' := [(3, .int (a3 + (1 : Int32))), (0, .ref 67), (1, .int a1), (2, .int a2)]) X dX10_use_39 rfl rfl (Nat.le_of_ble_eq_true rfl) rfl ?_
        refine zv_goto (tgt := 2) X dX10_use_42 (by decide) ?_
        exact zv_pick X [1, 2, 3, 0] rfl (ih _ _ _ _ e)
set_option maxRecDepth 100000 in
set_option maxHeartbeats 4000000 in
theorem k_X10_use {l : Launch} {D : va_G} {cy : Nat → ClassId} {S0 d : Nat} (hd : 0 ≤ d) {a1 : Int32} {a2 : Int32} {h : zHp} {q : zHp} (e : s_X10_use a1 a2 h = some q) : zCT l D cy S0 d yX10_use cX10_use 4 none [.ref 67, .int a1, .int a2] 117 zRF h none 117 zRF q := by
  unfold s_X10_use at e
  refine zCT_of RX10 rfl zm_X10_use (Nat.le_refl _) (Nat.le_of_ble_eq_true rfl) (fun J X => ?_)
  show J 0 [(0, .ref 67), (1, .int a1), (2, .int a2)] [] 117 zRF h
  refine zv_iconst (v := (0 : Int32)) X dX10_use_0 zic_0 ?_
  refine zv_istore_n (i := 3) (lv' := [(3, .int (0 : Int32)), (0, .ref 67), (1, .int a1), (2, .int a2)]) X dX10_use_1 rfl (Nat.le_of_ble_eq_true rfl) rfl ?_
  exact zv_pick X [1, 2, 3, 0] rfl (k_X10_use_L2 q hd X _ _ _ _ _ e)
-- X10_ones
def s_X10_ones_L4 : Nat → Int32 → Int32 → zHp → Option (Int32 × zHp)
  | 0, _, _, _ => none
  | f + 1, a1, a2, h =>
  if a2 ≤ 0 then
    some (a1, h)
  else
    (zrem a2 (2 : Int32)).bind fun v2 =>
    (some (a1 + v2)).bind fun v3 =>
    (zdiv a2 (2 : Int32)).bind fun v4 =>
    s_X10_ones_L4 f v3 v4 h
def s_X10_ones (a0 : Int32) (h : zHp) : Option (Int32 × zHp) :=
  s_X10_ones_L4 zFU (0 : Int32) a0 h
set_option maxRecDepth 100000 in
set_option maxHeartbeats 4000000 in
theorem k_X10_ones_L4 {l : Launch} {D : va_G} {cy : Nat → ClassId} {S0 d : Nat} {J : zJ} (q : (Int32 × zHp)) (hd : 0 ≤ d) (X : zOK l D cy S0 d RX10 cX10_ones 3 (yX10_ones.name == "<init>") 117 117 (some .int) (zRT 117 zRF (some (.int q.1)) q.2) J) : ∀ (f : Nat) (a1 : Int32) (a2 : Int32) (h : zHp), s_X10_ones_L4 f a1 a2 h = some q → J 4 [(1, .int a1), (2, .int a2)] [] 117 zRF h := by
  intro f
  induction f with
  | zero => intro _ _ h e; exact absurd e (fun z => by cases z)
  | succ f ih =>
    intro a1 a2 h e
    rw [s_X10_ones_L4] at e
    refine zv_iload_n X dX10_ones_4 rfl rfl ?_
    refine zv_if_le (tgt := 21) X dX10_ones_5 (by decide) (fun c1 => ?_) (fun c1 => ?_)
    · replace e := zit e c1
      refine zv_iload_n X dX10_ones_21 rfl rfl ?_
      exact zv_retI X e rfl dX10_ones_22
    · replace e := zif e c1
      refine zv_iload_n X dX10_ones_8 rfl rfl ?_
      refine zv_iload_n X dX10_ones_9 rfl rfl ?_
      refine zv_iconst (v := (2 : Int32)) X dX10_ones_10 zic_2 ?_
      refine zb e (fun v2 gv2 e => ?_)
      refine zv_irem X dX10_ones_11 gv2 ?_
      refine zv_iadd X dX10_ones_12 ?_
      refine zb e (fun v3 gv3 e => ?_)
      refine zv_nmI X gv3 ?_
      refine zv_istore_n (i := 1) (lv' := [(1, .int v3), (2, .int a2)]) X dX10_ones_13 rfl (Nat.le_of_ble_eq_true rfl) rfl ?_
      refine zv_iload_n X dX10_ones_14 rfl rfl ?_
      refine zv_iconst (v := (2 : Int32)) X dX10_ones_15 zic_2 ?_
      refine zb e (fun v4 gv4 e => ?_)
      refine zv_idiv X dX10_ones_16 gv4 ?_
      refine zv_istore_n (i := 2) (lv' := [(2, .int v4), (1, .int v3)]) X dX10_ones_17 rfl (Nat.le_of_ble_eq_true rfl) rfl ?_
      refine zv_goto (tgt := 4) X dX10_ones_18 (by decide) ?_
      exact zv_pick X [1, 0] rfl (ih _ _ _ e)
set_option maxRecDepth 100000 in
set_option maxHeartbeats 4000000 in
theorem k_X10_ones {l : Launch} {D : va_G} {cy : Nat → ClassId} {S0 d : Nat} (hd : 0 ≤ d) {a0 : Int32} {h : zHp} {q : (Int32 × zHp)} (e : s_X10_ones a0 h = some q) : zCT l D cy S0 d yX10_ones cX10_ones 3 (some .int) [.int a0] 117 zRF h (some (.int q.1)) 117 zRF q.2 := by
  unfold s_X10_ones at e
  refine zCT_of RX10 rfl zm_X10_ones (Nat.le_refl _) (Nat.le_of_ble_eq_true rfl) (fun J X => ?_)
  show J 0 [(0, .int a0)] [] 117 zRF h
  refine zv_iconst (v := (0 : Int32)) X dX10_ones_0 zic_0 ?_
  refine zv_istore_n (i := 1) (lv' := [(1, .int (0 : Int32)), (0, .int a0)]) X dX10_ones_1 rfl (Nat.le_of_ble_eq_true rfl) rfl ?_
  refine zv_iload_n X dX10_ones_2 rfl rfl ?_
  refine zv_istore_n (i := 2) (lv' := [(2, .int a0), (1, .int (0 : Int32)), (0, .int a0)]) X dX10_ones_3 rfl (Nat.le_of_ble_eq_true rfl) rfl ?_
  exact zv_pick X [1, 0] rfl (k_X10_ones_L4 q hd X _ _ _ _ e)
-- X10_mayTake
def s_X10_mayTake_L48  (h : zHp) : Option (Int32 × zHp) :=
  some ((0 : Int32), h)
def s_X10_mayTake_L128 (k56 : Int32 → Int32 → Int32 → Int32 → Int32 → Int32 → zHp → Option (Int32 × zHp)) (a1 : Int32) (a2 : Int32) (a3 : Int32) (a4 : Int32) (a6 : Int32) (b0 : Int32) (h : zHp) : Option (Int32 × zHp) :=
  k56 a1 a2 a3 a4 b0 (a6 + (1 : Int32)) h
def s_X10_mayTake_L123 (k56 : Int32 → Int32 → Int32 → Int32 → Int32 → Int32 → zHp → Option (Int32 × zHp)) (a1 : Int32) (a2 : Int32) (a3 : Int32) (a4 : Int32) (a6 : Int32) (h : zHp) : Option (Int32 × zHp) :=
  s_X10_mayTake_L128 k56 a1 a2 a3 a4 a6 (1 : Int32) h
def s_X10_mayTake_L127 (k56 : Int32 → Int32 → Int32 → Int32 → Int32 → Int32 → zHp → Option (Int32 × zHp)) (a1 : Int32) (a2 : Int32) (a3 : Int32) (a4 : Int32) (a6 : Int32) (h : zHp) : Option (Int32 × zHp) :=
  s_X10_mayTake_L128 k56 a1 a2 a3 a4 a6 (0 : Int32) h
def s_X10_mayTake_L56 : Nat → Int32 → Int32 → Int32 → Int32 → Int32 → Int32 → zHp → Option (Int32 × zHp)
  | 0, _, _, _, _, _, _, _ => none
  | f + 1, a1, a2, a3, a4, a5, a6, h =>
  if a3 ≤ a6 then
    (zbo a5).bind fun u2 =>
    some (a5, h)
  else
    if a5 = 0 then
      s_X10_mayTake_L127 (s_X10_mayTake_L56 f) a1 a2 a3 a4 a6 h
    else
      if ((a4 >>> (a6 &&& 31)) &&& (1 : Int32)) = 0 then
        s_X10_mayTake_L123 (s_X10_mayTake_L56 f) a1 a2 a3 a4 a6 h
      else
        (zri h 93 6 a1).bind fun v5 =>
        (zri h 77 20 v5).bind fun v6 =>
        (zri h 81 50 (((10 : Int32) * a6) + v6)).bind fun v7 =>
        if v7 = 0 then
          (zdiv a2 (8 : Int32)).bind fun v9 =>
          (zri h 99 15 (((3 : Int32) * v9) + a6)).bind fun v10 =>
          if (h.1 67 30) ≤ v10 then
            s_X10_mayTake_L127 (s_X10_mayTake_L56 f) a1 a2 a3 a4 a6 h
          else
            s_X10_mayTake_L123 (s_X10_mayTake_L56 f) a1 a2 a3 a4 a6 h
        else
          s_X10_mayTake_L127 (s_X10_mayTake_L56 f) a1 a2 a3 a4 a6 h
def s_X10_mayTake_L45 (a1 : Int32) (a2 : Int32) (a3 : Int32) (a4 : Int32) (b0 : Int32) (b1 : Int32) (h : zHp) : Option (Int32 × zHp) :=
  if b0 = b1 then
    s_X10_mayTake_L56 zFU a1 a2 a3 a4 (1 : Int32) (0 : Int32) h
  else
    s_X10_mayTake_L48 h
def s_X10_mayTake (a1 : Int32) (a2 : Int32) (a3 : Int32) (h : zHp) : Option (Int32 × zHp) :=
  if a2 = (40 : Int32) then
    some ((1 : Int32), h)
  else
    (zrem a2 (8 : Int32)).bind fun v2 =>
    if (v2 >>> (a3 &&& 31)) = 0 then
      (s_X10_ones v2 h).bind fun q4 =>
      (zri q4.2 93 6 a1).bind fun v5 =>
      (zri q4.2 79 20 v5).bind fun v6 =>
      if v6 = 0 then
        s_X10_mayTake_L45 a1 a2 a3 v2 q4.1 (1 : Int32) q4.2
      else
        s_X10_mayTake_L45 a1 a2 a3 v2 q4.1 (2 : Int32) q4.2
    else
      s_X10_mayTake_L48 h
set_option maxRecDepth 100000 in
set_option maxHeartbeats 4000000 in
theorem k_X10_mayTake_L48 {l : Launch} {D : va_G} {cy : Nat → ClassId} {S0 d : Nat} {J : zJ} (q : (Int32 × zHp)) (hd : 1 ≤ d) (X : zOK l D cy S0 d RX10 cX10_mayTake 7 (yX10_mayTake.name == "<init>") 117 117 (some .boolean) (zRT 117 zRF (some (.int q.1)) q.2) J) : ∀  (h : zHp), s_X10_mayTake_L48  h = some q → J 48 [] [] 117 zRF h := by
  intro  h e
  unfold s_X10_mayTake_L48 at e
  refine zv_iconst (v := (0 : Int32)) X dX10_mayTake_48 zic_0 ?_
  exact zv_retZ X e rfl zbo_0 dX10_mayTake_49
set_option maxRecDepth 100000 in
set_option maxHeartbeats 4000000 in
theorem k_X10_mayTake_L128 {l : Launch} {D : va_G} {cy : Nat → ClassId} {S0 d : Nat} {J : zJ} (q : (Int32 × zHp)) (hd : 1 ≤ d) (X : zOK l D cy S0 d RX10 cX10_mayTake 7 (yX10_mayTake.name == "<init>") 117 117 (some .boolean) (zRT 117 zRF (some (.int q.1)) q.2) J) {k56 : Int32 → Int32 → Int32 → Int32 → Int32 → Int32 → zHp → Option (Int32 × zHp)} (hk56 : ∀ (a1 : Int32) (a2 : Int32) (a3 : Int32) (a4 : Int32) (a5 : Int32) (a6 : Int32) (h : zHp), k56 a1 a2 a3 a4 a5 a6 h = some q → J 56 [(0, .ref 67), (1, .int a1), (2, .int a2), (3, .int a3), (4, .int a4), (5, .int a5), (6, .int a6)] [] 117 zRF h) : ∀ (a1 : Int32) (a2 : Int32) (a3 : Int32) (a4 : Int32) (a6 : Int32) (b0 : Int32) (h : zHp), s_X10_mayTake_L128 k56 a1 a2 a3 a4 a6 b0 h = some q → J 128 [(0, .ref 67), (1, .int a1), (2, .int a2), (3, .int a3), (4, .int a4), (6, .int a6)] [.int b0] 117 zRF h := by
  intro a1 a2 a3 a4 a6 b0 h e
  unfold s_X10_mayTake_L128 at e
  refine zv_istore (i := 5) (lv' := [(5, .int b0), (0, .ref 67), (1, .int a1), (2, .int a2), (3, .int a3), (4, .int a4), (6, .int a6)]) X dX10_mayTake_128 (Nat.le_of_ble_eq_true rfl) rfl ?_
  refine zv_iinc (k := 6) (v := a6 + (1 : Int32)) (lv' := [(6, .int (a6 + (1 : Int32))), (5, .int b0), (0, .ref 67), (1, .int a1), (2, .int a2), (3, .int a3), (4, .int a4)]) X dX10_mayTake_130 rfl rfl (Nat.le_of_ble_eq_true rfl) rfl ?_
  refine zv_goto (tgt := 56) X dX10_mayTake_133 (by decide) ?_
  exact zv_pick X [2, 3, 4, 5, 6, 1, 0] rfl (hk56 _ _ _ _ _ _ _ e)
set_option maxRecDepth 100000 in
set_option maxHeartbeats 4000000 in
theorem k_X10_mayTake_L123 {l : Launch} {D : va_G} {cy : Nat → ClassId} {S0 d : Nat} {J : zJ} (q : (Int32 × zHp)) (hd : 1 ≤ d) (X : zOK l D cy S0 d RX10 cX10_mayTake 7 (yX10_mayTake.name == "<init>") 117 117 (some .boolean) (zRT 117 zRF (some (.int q.1)) q.2) J) {k56 : Int32 → Int32 → Int32 → Int32 → Int32 → Int32 → zHp → Option (Int32 × zHp)} (hk56 : ∀ (a1 : Int32) (a2 : Int32) (a3 : Int32) (a4 : Int32) (a5 : Int32) (a6 : Int32) (h : zHp), k56 a1 a2 a3 a4 a5 a6 h = some q → J 56 [(0, .ref 67), (1, .int a1), (2, .int a2), (3, .int a3), (4, .int a4), (5, .int a5), (6, .int a6)] [] 117 zRF h) : ∀ (a1 : Int32) (a2 : Int32) (a3 : Int32) (a4 : Int32) (a6 : Int32) (h : zHp), s_X10_mayTake_L123 k56 a1 a2 a3 a4 a6 h = some q → J 123 [(0, .ref 67), (1, .int a1), (2, .int a2), (3, .int a3), (4, .int a4), (6, .int a6)] [] 117 zRF h := by
  intro a1 a2 a3 a4 a6 h e
  unfold s_X10_mayTake_L123 at e
  refine zv_iconst (v := (1 : Int32)) X dX10_mayTake_123 zic_1 ?_
  refine zv_goto (tgt := 128) X dX10_mayTake_124 (by decide) ?_
  exact k_X10_mayTake_L128 q hd X hk56 _ _ _ _ _ _ _ e
set_option maxRecDepth 100000 in
set_option maxHeartbeats 4000000 in
theorem k_X10_mayTake_L127 {l : Launch} {D : va_G} {cy : Nat → ClassId} {S0 d : Nat} {J : zJ} (q : (Int32 × zHp)) (hd : 1 ≤ d) (X : zOK l D cy S0 d RX10 cX10_mayTake 7 (yX10_mayTake.name == "<init>") 117 117 (some .boolean) (zRT 117 zRF (some (.int q.1)) q.2) J) {k56 : Int32 → Int32 → Int32 → Int32 → Int32 → Int32 → zHp → Option (Int32 × zHp)} (hk56 : ∀ (a1 : Int32) (a2 : Int32) (a3 : Int32) (a4 : Int32) (a5 : Int32) (a6 : Int32) (h : zHp), k56 a1 a2 a3 a4 a5 a6 h = some q → J 56 [(0, .ref 67), (1, .int a1), (2, .int a2), (3, .int a3), (4, .int a4), (5, .int a5), (6, .int a6)] [] 117 zRF h) : ∀ (a1 : Int32) (a2 : Int32) (a3 : Int32) (a4 : Int32) (a6 : Int32) (h : zHp), s_X10_mayTake_L127 k56 a1 a2 a3 a4 a6 h = some q → J 127 [(0, .ref 67), (1, .int a1), (2, .int a2), (3, .int a3), (4, .int a4), (6, .int a6)] [] 117 zRF h := by
  intro a1 a2 a3 a4 a6 h e
  unfold s_X10_mayTake_L127 at e
  refine zv_iconst (v := (0 : Int32)) X dX10_mayTake_127 zic_0 ?_
  exact k_X10_mayTake_L128 q hd X hk56 _ _ _ _ _ _ _ e
set_option maxRecDepth 100000 in
set_option maxHeartbeats 4000000 in
theorem k_X10_mayTake_L56 {l : Launch} {D : va_G} {cy : Nat → ClassId} {S0 d : Nat} {J : zJ} (q : (Int32 × zHp)) (hd : 1 ≤ d) (X : zOK l D cy S0 d RX10 cX10_mayTake 7 (yX10_mayTake.name == "<init>") 117 117 (some .boolean) (zRT 117 zRF (some (.int q.1)) q.2) J) : ∀ (f : Nat) (a1 : Int32) (a2 : Int32) (a3 : Int32) (a4 : Int32) (a5 : Int32) (a6 : Int32) (h : zHp), s_X10_mayTake_L56 f a1 a2 a3 a4 a5 a6 h = some q → J 56 [(0, .ref 67), (1, .int a1), (2, .int a2), (3, .int a3), (4, .int a4), (5, .int a5), (6, .int a6)] [] 117 zRF h := by
  intro f
  induction f with
  | zero => intro _ _ _ _ _ _ h e; exact absurd e (fun z => by cases z)
  | succ f ih =>
    intro a1 a2 a3 a4 a5 a6 h e
    rw [s_X10_mayTake_L56] at e
    refine zv_iload X dX10_mayTake_56 rfl ?_
    refine zv_iload_n X dX10_mayTake_58 rfl rfl ?_
    refine zv_icmp_ge (tgt := 136) X dX10_mayTake_59 (by decide) (fun c1 => ?_) (fun c1 => ?_)
    · replace e := zit e c1
      refine zv_iload X dX10_mayTake_136 rfl ?_
      refine zb e (fun u gu e => ?_)
      exact zv_retZ X e rfl (zbo_ok gu) dX10_mayTake_138
    · replace e := zif e c1
      refine zv_iload X dX10_mayTake_62 rfl ?_
      refine zv_if_eq (tgt := 127) X dX10_mayTake_64 (by decide) (fun c3 => ?_) (fun c3 => ?_)
      · replace e := zit e c3
        exact zv_pick X [0, 1, 2, 3, 4, 6] rfl (k_X10_mayTake_L127 q hd X ih _ _ _ _ _ _ e)
      · replace e := zif e c3
        refine zv_iload X dX10_mayTake_67 rfl ?_
        refine zv_iload X dX10_mayTake_69 rfl ?_
        refine zv_ishr X dX10_mayTake_71 ?_
        refine zv_iconst (v := (1 : Int32)) X dX10_mayTake_72 zic_1 ?_
        refine zv_iand X dX10_mayTake_73 ?_
        refine zv_if_eq (tgt := 123) X dX10_mayTake_74 (by decide) (fun c4 => ?_) (fun c4 => ?_)
        · replace e := zit e c4
          exact zv_pick X [0, 1, 2, 3, 4, 6] rfl (k_X10_mayTake_L123 q hd X ih _ _ _ _ _ _ e)
        · replace e := zif e c4
          refine zv_aload_n X dX10_mayTake_77 rfl rfl ?_
          refine zv_getR X zf_RX10_50 znt_a zk_67 zb_67 zr_67_16 dX10_mayTake_78 ?_
          refine zv_bipush (v := (10 : Int32)) X dX10_mayTake_81 zbp_10 ?_
          refine zv_iload X dX10_mayTake_83 rfl ?_
          refine zv_imul X dX10_mayTake_85 ?_
          refine zv_aload_n X dX10_mayTake_86 rfl rfl ?_
          refine zv_getR X zf_RX10_37 znt_a zk_67 zb_67 zr_67_12 dX10_mayTake_87 ?_
          refine zv_aload_n X dX10_mayTake_90 rfl rfl ?_
          refine zv_getR X zf_RX10_90 znt_a zk_67 zb_67 zr_67_31 dX10_mayTake_91 ?_
          refine zv_iload_n X dX10_mayTake_94 rfl rfl ?_
          refine zb e (fun v5 gv5 e => ?_)
          refine zv_iald X zk_93 zl_93 zb_93 dX10_mayTake_95 gv5 ?_
          refine zb e (fun v6 gv6 e => ?_)
          refine zv_iald X zk_77 zl_77 zb_77 dX10_mayTake_96 gv6 ?_
          refine zv_iadd X dX10_mayTake_97 ?_
          refine zb e (fun v7 gv7 e => ?_)
          refine zv_zald X zk_81 zl_81 zb_81 dX10_mayTake_98 gv7 ?_
          refine zv_if_ne (tgt := 127) X dX10_mayTake_99 (by decide) (fun c8 => ?_) (fun c8 => ?_)
          · replace e := zif e c8
            exact zv_pick X [0, 1, 2, 3, 4, 6] rfl (k_X10_mayTake_L127 q hd X ih _ _ _ _ _ _ e)
          · replace e := zit e c8
            refine zv_aload_n X dX10_mayTake_102 rfl rfl ?_
            refine zv_getR X zf_RX10_108 znt_a zk_67 zb_67 zr_67_38 dX10_mayTake_103 ?_
            refine zv_iconst (v := (3 : Int32)) X dX10_mayTake_106 zic_3 ?_
            refine zv_iload_n X dX10_mayTake_107 rfl rfl ?_
            refine zv_bipush (v := (8 : Int32)) X dX10_mayTake_108 zbp_8 ?_
            refine zb e (fun v9 gv9 e => ?_)
            refine zv_idiv X dX10_mayTake_110 gv9 ?_
            refine zv_imul X dX10_mayTake_111 ?_
            refine zv_iload X dX10_mayTake_112 rfl ?_
            refine zv_iadd X dX10_mayTake_114 ?_
            refine zb e (fun v10 gv10 e => ?_)
            refine zv_iald X zk_99 zl_99 zb_99 dX10_mayTake_115 gv10 ?_
            refine zv_aload_n X dX10_mayTake_116 rfl rfl ?_
            refine zv_getI X zf_RX10_86 zk_67 zb_67 dX10_mayTake_117 ?_
            refine zv_icmp_ge (tgt := 127) X dX10_mayTake_120 (by decide) (fun c11 => ?_) (fun c11 => ?_)
            · replace e := zit e c11
              exact zv_pick X [0, 1, 2, 3, 4, 6] rfl (k_X10_mayTake_L127 q hd X ih _ _ _ _ _ _ e)
            · replace e := zif e c11
              exact zv_pick X [0, 1, 2, 3, 4, 6] rfl (k_X10_mayTake_L123 q hd X ih _ _ _ _ _ _ e)
set_option maxRecDepth 100000 in
set_option maxHeartbeats 4000000 in
theorem k_X10_mayTake_L45 {l : Launch} {D : va_G} {cy : Nat → ClassId} {S0 d : Nat} {J : zJ} (q : (Int32 × zHp)) (hd : 1 ≤ d) (X : zOK l D cy S0 d RX10 cX10_mayTake 7 (yX10_mayTake.name == "<init>") 117 117 (some .boolean) (zRT 117 zRF (some (.int q.1)) q.2) J) : ∀ (a1 : Int32) (a2 : Int32) (a3 : Int32) (a4 : Int32) (b0 : Int32) (b1 : Int32) (h : zHp), s_X10_mayTake_L45 a1 a2 a3 a4 b0 b1 h = some q → J 45 [(0, .ref 67), (1, .int a1), (2, .int a2), (3, .int a3), (4, .int a4)] [.int b1, .int b0] 117 zRF h := by
  intro a1 a2 a3 a4 b0 b1 h e
  unfold s_X10_mayTake_L45 at e
  refine zv_icmp_eq (tgt := 50) X dX10_mayTake_45 (by decide) (fun c1 => ?_) (fun c1 => ?_)
  · replace e := zit e c1
    refine zv_iconst (v := (1 : Int32)) X dX10_mayTake_50 zic_1 ?_
    refine zv_istore (i := 5) (lv' := [(5, .int (1 : Int32)), (0, .ref 67), (1, .int a1), (2, .int a2), (3, .int a3), (4, .int a4)]) X dX10_mayTake_51 (Nat.le_of_ble_eq_true rfl) rfl ?_
    refine zv_iconst (v := (0 : Int32)) X dX10_mayTake_53 zic_0 ?_
    refine zv_istore (i := 6) (lv' := [(6, .int (0 : Int32)), (5, .int (1 : Int32)), (0, .ref 67), (1, .int a1), (2, .int a2), (3, .int a3), (4, .int a4)]) X dX10_mayTake_54 (Nat.le_of_ble_eq_true rfl) rfl ?_
    exact zv_pick X [2, 3, 4, 5, 6, 1, 0] rfl (k_X10_mayTake_L56 q hd X _ _ _ _ _ _ _ _ e)
  · replace e := zif e c1
    exact zv_pick X [] rfl (k_X10_mayTake_L48 q hd X  _ e)
set_option maxRecDepth 100000 in
set_option maxHeartbeats 4000000 in
theorem k_X10_mayTake {l : Launch} {D : va_G} {cy : Nat → ClassId} {S0 d : Nat} (hd : 1 ≤ d) {a1 : Int32} {a2 : Int32} {a3 : Int32} {h : zHp} {q : (Int32 × zHp)} (e : s_X10_mayTake a1 a2 a3 h = some q) : zCT l D cy S0 d yX10_mayTake cX10_mayTake 7 (some .boolean) [.ref 67, .int a1, .int a2, .int a3] 117 zRF h (some (.int q.1)) 117 zRF q.2 := by
  unfold s_X10_mayTake at e
  refine zCT_of RX10 rfl zm_X10_mayTake (Nat.le_refl _) (Nat.le_of_ble_eq_true rfl) (fun J X => ?_)
  show J 0 [(0, .ref 67), (1, .int a1), (2, .int a2), (3, .int a3)] [] 117 zRF h
  refine zv_iload_n X dX10_mayTake_0 rfl rfl ?_
  refine zv_bipush (v := (40 : Int32)) X dX10_mayTake_1 zbp_40 ?_
  refine zv_icmp_ne (tgt := 8) X dX10_mayTake_3 (by decide) (fun c1 => ?_) (fun c1 => ?_)
  · replace e := zif e c1
    refine zv_iload_n X dX10_mayTake_8 rfl rfl ?_
    refine zv_bipush (v := (8 : Int32)) X dX10_mayTake_9 zbp_8 ?_
    refine zb e (fun v2 gv2 e => ?_)
    refine zv_irem X dX10_mayTake_11 gv2 ?_
    refine zv_istore (i := 4) (lv' := [(4, .int v2), (0, .ref 67), (1, .int a1), (2, .int a2), (3, .int a3)]) X dX10_mayTake_12 (Nat.le_of_ble_eq_true rfl) rfl ?_
    refine zv_iload X dX10_mayTake_14 rfl ?_
    refine zv_iload_n X dX10_mayTake_16 rfl rfl ?_
    refine zv_ishr X dX10_mayTake_17 ?_
    refine zv_if_ne (tgt := 48) X dX10_mayTake_18 (by decide) (fun c3 => ?_) (fun c3 => ?_)
    · replace e := zif e c3
      exact zv_pick X [] rfl (k_X10_mayTake_L48 q hd X  _ e)
    · replace e := zit e c3
      refine zv_iload X dX10_mayTake_21 rfl ?_
      refine zb e (fun q4 gq4 e => ?_)
      refine zv_callS (stk := [.int v2]) (as := [.int v2]) (st := []) X zl_RX10_235 zm_X10_ones (k_X10_ones (d := d - 1) (by omega) gq4) (by omega) rfl (Nat.le_of_ble_eq_true rfl) (Nat.le_refl _) rfl dX10_mayTake_23 ?_
      show J 26 [(4, .int v2), (0, .ref 67), (1, .int a1), (2, .int a2), (3, .int a3)] [.int q4.1] 117 zRF q4.2
      refine zv_aload_n X dX10_mayTake_26 rfl rfl ?_
      refine zv_getR X zf_RX10_43 znt_a zk_67 zb_67 zr_67_14 dX10_mayTake_27 ?_
      refine zv_aload_n X dX10_mayTake_30 rfl rfl ?_
      refine zv_getR X zf_RX10_90 znt_a zk_67 zb_67 zr_67_31 dX10_mayTake_31 ?_
      refine zv_iload_n X dX10_mayTake_34 rfl rfl ?_
      refine zb e (fun v5 gv5 e => ?_)
      refine zv_iald X zk_93 zl_93 zb_93 dX10_mayTake_35 gv5 ?_
      refine zb e (fun v6 gv6 e => ?_)
      refine zv_zald X zk_79 zl_79 zb_79 dX10_mayTake_36 gv6 ?_
      refine zv_if_eq (tgt := 44) X dX10_mayTake_37 (by decide) (fun c7 => ?_) (fun c7 => ?_)
      · replace e := zit e c7
        refine zv_iconst (v := (1 : Int32)) X dX10_mayTake_44 zic_1 ?_
        exact zv_pick X [1, 2, 3, 4, 0] rfl (k_X10_mayTake_L45 q hd X _ _ _ _ _ _ _ e)
      · replace e := zif e c7
        refine zv_iconst (v := (2 : Int32)) X dX10_mayTake_40 zic_2 ?_
        refine zv_goto (tgt := 45) X dX10_mayTake_41 (by decide) ?_
        exact zv_pick X [1, 2, 3, 4, 0] rfl (k_X10_mayTake_L45 q hd X _ _ _ _ _ _ _ e)
  · replace e := zit e c1
    refine zv_iconst (v := (1 : Int32)) X dX10_mayTake_6 zic_1 ?_
    exact zv_retZ X e rfl zbo_1 dX10_mayTake_7
-- X10_findRounds
def s_X10_findRounds_L108 (k43 : Int32 → Int32 → Int32 → zHp → Option (Int32 × zHp)) (a1 : Int32) (a2 : Int32) (a3 : Int32) (h : zHp) : Option (Int32 × zHp) :=
  k43 a1 a2 (a3 + (-1 : Int32)) h
def s_X10_findRounds_L79 (k43 : Int32 → Int32 → Int32 → zHp → Option (Int32 × zHp)) : Nat → Int32 → Int32 → Int32 → Int32 → zHp → Option (Int32 × zHp)
  | 0, _, _, _, _, _ => none
  | f + 1, a1, a2, a3, a4, h =>
  if (h.1 67 32) ≤ a4 then
    s_X10_findRounds_L108 k43 a1 a2 a3 h
  else
    (zri h 96 6 a4).bind fun v2 =>
    (zui h 97 6 a4 v2).bind fun h3 =>
    s_X10_findRounds_L79 k43 f a1 a2 a3 (a4 + (1 : Int32)) h3
def s_X10_findRounds_L69 (k43 : Int32 → Int32 → Int32 → zHp → Option (Int32 × zHp)) (a1 : Int32) (a3 : Int32) (h : zHp) : Option (Int32 × zHp) :=
  (zri h 98 7 a3).bind fun v1 =>
  s_X10_findRounds_L79 k43 zFU a1 v1 a3 (0 : Int32) h
def s_X10_findRounds_L267 (k43 : Int32 → Int32 → Int32 → zHp → Option (Int32 × zHp)) (a1 : Int32) (a2 : Int32) (a3 : Int32) (h : zHp) : Option (Int32 × zHp) :=
  k43 a1 a2 a3 h
def s_X10_findRounds_L251 (k43 : Int32 → Int32 → Int32 → zHp → Option (Int32 × zHp)) (a1 : Int32) (a2 : Int32) (a3 : Int32) (h : zHp) : Option (Int32 × zHp) :=
  if (6 : Int32) ≤ (a3 + (1 : Int32)) then
    s_X10_findRounds_L267 k43 a1 a2 (a3 + (1 : Int32)) h
  else
    (zui h 96 6 (a3 + (1 : Int32)) (-1 : Int32)).bind fun h2 =>
    s_X10_findRounds_L267 k43 a1 a2 (a3 + (1 : Int32)) h2
def s_X10_findRounds_L168 (k43 : Int32 → Int32 → Int32 → zHp → Option (Int32 × zHp)) (a1 : Int32) (a2 : Int32) (a3 : Int32) (a4 : Int32) (h : zHp) : Option (Int32 × zHp) :=
  if a4 ≤ (40 : Int32) then
    (zui h 96 6 a3 a4).bind fun h2 =>
    (s_X10_use a4 (1 : Int32) h2).bind fun q3 =>
    (zri q3 98 7 a3).bind fun v4 =>
    (zdiv a4 (8 : Int32)).bind fun v5 =>
    (zri q3 94 36 (((6 : Int32) * a3) + v5)).bind fun v6 =>
    (zui q3 98 7 (a3 + (1 : Int32)) (v4 + v6)).bind fun h7 =>
    if a2 < 0 then
      s_X10_findRounds_L251 k43 a1 a2 a3 h7
    else
      (zri h7 98 7 (a3 + (1 : Int32))).bind fun v9 =>
      (zri h7 95 7 (a3 + (1 : Int32))).bind fun v10 =>
      if a2 ≤ (v9 + v10) then
        s_X10_findRounds_L267 k43 a1 a2 a3 h7
      else
        s_X10_findRounds_L251 k43 a1 a2 a3 h7
  else
    k43 a1 a2 (a3 + (-1 : Int32)) h
def s_X10_findRounds_L144 (k43 : Int32 → Int32 → Int32 → zHp → Option (Int32 × zHp)) : Nat → Int32 → Int32 → Int32 → Int32 → zHp → Option (Int32 × zHp)
  | 0, _, _, _, _, _ => none
  | f + 1, a1, a2, a3, a4, h =>
  if (40 : Int32) < a4 then
    s_X10_findRounds_L168 k43 a1 a2 a3 a4 h
  else
    (s_X10_mayTake a3 a4 a1 h).bind fun q2 =>
    if q2.1 = 0 then
      s_X10_findRounds_L144 k43 f a1 a2 a3 (a4 + (1 : Int32)) q2.2
    else
      s_X10_findRounds_L168 k43 a1 a2 a3 a4 q2.2
def s_X10_findRounds_L134 (k43 : Int32 → Int32 → Int32 → zHp → Option (Int32 × zHp)) (a1 : Int32) (a2 : Int32) (a3 : Int32) (h : zHp) : Option (Int32 × zHp) :=
  (zri h 96 6 a3).bind fun v1 =>
  (some (v1 + (1 : Int32))).bind fun v2 =>
  s_X10_findRounds_L144 k43 zFU a1 a2 a3 v2 h
def s_X10_findRounds_L43 : Nat → Int32 → Int32 → Int32 → zHp → Option (Int32 × zHp)
  | 0, _, _, _, _ => none
  | f + 1, a1, a2, a3, h =>
  if a3 < 0 then
    some (a2, h)
  else
    if a3 = (h.1 67 32) then
      if a2 < 0 then
        s_X10_findRounds_L69 (s_X10_findRounds_L43 f) a1 a3 h
      else
        (zri h 98 7 a3).bind fun v8 =>
        if a2 ≤ v8 then
          s_X10_findRounds_L108 (s_X10_findRounds_L43 f) a1 a2 a3 h
        else
          s_X10_findRounds_L69 (s_X10_findRounds_L43 f) a1 a3 h
    else
      (zri h 96 6 a3).bind fun v3 =>
      if v3 < 0 then
        s_X10_findRounds_L134 (s_X10_findRounds_L43 f) a1 a2 a3 h
      else
        (zri h 96 6 a3).bind fun v5 =>
        (s_X10_use v5 (-1 : Int32) h).bind fun q6 =>
        s_X10_findRounds_L134 (s_X10_findRounds_L43 f) a1 a2 a3 q6
def s_X10_findRounds_L6 : Nat → Int32 → Int32 → zHp → Option (Int32 × zHp)
  | 0, _, _, _ => none
  | f + 1, a1, a2, h =>
  if (15 : Int32) ≤ a2 then
    (zui h 98 7 (0 : Int32) (0 : Int32)).bind fun h2 =>
    (zui h2 96 6 (0 : Int32) (-1 : Int32)).bind fun h3 =>
    s_X10_findRounds_L43 zFU a1 (-1 : Int32) (0 : Int32) h3
  else
    (zui h 99 15 a2 (0 : Int32)).bind fun h4 =>
    s_X10_findRounds_L6 f a1 (a2 + (1 : Int32)) h4
def s_X10_findRounds (a1 : Int32) (h : zHp) : Option (Int32 × zHp) :=
  (s_X10_ask h).bind fun q1 =>
  s_X10_findRounds_L6 zFU a1 (0 : Int32) q1
set_option maxRecDepth 100000 in
set_option maxHeartbeats 4000000 in
theorem k_X10_findRounds_L108 {l : Launch} {D : va_G} {cy : Nat → ClassId} {S0 d : Nat} {J : zJ} (q : (Int32 × zHp)) (hd : 7 ≤ d) (X : zOK l D cy S0 d RX10 cX10_findRounds 5 (yX10_findRounds.name == "<init>") 117 117 (some .int) (zRT 117 zRF (some (.int q.1)) q.2) J) {k43 : Int32 → Int32 → Int32 → zHp → Option (Int32 × zHp)} (hk43 : ∀ (a1 : Int32) (a2 : Int32) (a3 : Int32) (h : zHp), k43 a1 a2 a3 h = some q → J 43 [(0, .ref 67), (1, .int a1), (2, .int a2), (3, .int a3)] [] 117 zRF h) : ∀ (a1 : Int32) (a2 : Int32) (a3 : Int32) (h : zHp), s_X10_findRounds_L108 k43 a1 a2 a3 h = some q → J 108 [(0, .ref 67), (1, .int a1), (2, .int a2), (3, .int a3)] [] 117 zRF h := by
  intro a1 a2 a3 h e
  unfold s_X10_findRounds_L108 at e
  refine zv_iinc (k := 3) (v := a3 + (-1 : Int32)) (lv' := [(3, .int (a3 + (-1 : Int32))), (0, .ref 67), (1, .int a1), (2, .int a2)]) X dX10_findRounds_108 rfl rfl (Nat.le_of_ble_eq_true rfl) rfl ?_
  refine zv_goto (tgt := 43) X dX10_findRounds_111 (by decide) ?_
  exact zv_pick X [1, 2, 3, 0] rfl (hk43 _ _ _ _ e)
set_option maxRecDepth 100000 in
set_option maxHeartbeats 4000000 in
theorem k_X10_findRounds_L79 {l : Launch} {D : va_G} {cy : Nat → ClassId} {S0 d : Nat} {J : zJ} (q : (Int32 × zHp)) (hd : 7 ≤ d) (X : zOK l D cy S0 d RX10 cX10_findRounds 5 (yX10_findRounds.name == "<init>") 117 117 (some .int) (zRT 117 zRF (some (.int q.1)) q.2) J) {k43 : Int32 → Int32 → Int32 → zHp → Option (Int32 × zHp)} (hk43 : ∀ (a1 : Int32) (a2 : Int32) (a3 : Int32) (h : zHp), k43 a1 a2 a3 h = some q → J 43 [(0, .ref 67), (1, .int a1), (2, .int a2), (3, .int a3)] [] 117 zRF h) : ∀ (f : Nat) (a1 : Int32) (a2 : Int32) (a3 : Int32) (a4 : Int32) (h : zHp), s_X10_findRounds_L79 k43 f a1 a2 a3 a4 h = some q → J 79 [(0, .ref 67), (1, .int a1), (2, .int a2), (3, .int a3), (4, .int a4)] [] 117 zRF h := by
  intro f
  induction f with
  | zero => intro _ _ _ _ h e; exact absurd e (fun z => by cases z)
  | succ f ih =>
    intro a1 a2 a3 a4 h e
    rw [s_X10_findRounds_L79] at e
    refine zv_iload X dX10_findRounds_79 rfl ?_
    refine zv_aload_n X dX10_findRounds_81 rfl rfl ?_
    refine zv_getI X zf_RX10_232 zk_67 zb_67 dX10_findRounds_82 ?_
    refine zv_icmp_ge (tgt := 108) X dX10_findRounds_85 (by decide) (fun c1 => ?_) (fun c1 => ?_)
    · replace e := zit e c1
      exact zv_pick X [0, 1, 2, 3] rfl (k_X10_findRounds_L108 q hd X hk43 _ _ _ _ e)
    · replace e := zif e c1
      refine zv_aload_n X dX10_findRounds_88 rfl rfl ?_
      refine zv_getR X zf_RX10_102 znt_a zk_67 zb_67 zr_67_36 dX10_findRounds_89 ?_
      refine zv_iload X dX10_findRounds_92 rfl ?_
      refine zv_aload_n X dX10_findRounds_94 rfl rfl ?_
      refine zv_getR X zf_RX10_99 znt_a zk_67 zb_67 zr_67_35 dX10_findRounds_95 ?_
      refine zv_iload X dX10_findRounds_98 rfl ?_
      refine zb e (fun v2 gv2 e => ?_)
      refine zv_iald X zk_96 zl_96 zb_96 dX10_findRounds_100 gv2 ?_
      refine zb e (fun h3 gh3 e => ?_)
      refine zv_iast X zk_97 zl_97 zb_97 dX10_findRounds_101 gh3 ?_
      refine zv_iinc (k := 4) (v := a4 + (1 : Int32)) (lv' := [(4, .int (a4 + (1 : Int32))), (0, .ref 67), (1, .int a1), (2, .int a2), (3, .int a3)]) X dX10_findRounds_102 rfl rfl (Nat.le_of_ble_eq_true rfl) rfl ?_
      refine zv_goto (tgt := 79) X dX10_findRounds_105 (by decide) ?_
      exact zv_pick X [1, 2, 3, 4, 0] rfl (ih _ _ _ _ _ e)
set_option maxRecDepth 100000 in
set_option maxHeartbeats 4000000 in
theorem k_X10_findRounds_L69 {l : Launch} {D : va_G} {cy : Nat → ClassId} {S0 d : Nat} {J : zJ} (q : (Int32 × zHp)) (hd : 7 ≤ d) (X : zOK l D cy S0 d RX10 cX10_findRounds 5 (yX10_findRounds.name == "<init>") 117 117 (some .int) (zRT 117 zRF (some (.int q.1)) q.2) J) {k43 : Int32 → Int32 → Int32 → zHp → Option (Int32 × zHp)} (hk43 : ∀ (a1 : Int32) (a2 : Int32) (a3 : Int32) (h : zHp), k43 a1 a2 a3 h = some q → J 43 [(0, .ref 67), (1, .int a1), (2, .int a2), (3, .int a3)] [] 117 zRF h) : ∀ (a1 : Int32) (a3 : Int32) (h : zHp), s_X10_findRounds_L69 k43 a1 a3 h = some q → J 69 [(0, .ref 67), (1, .int a1), (3, .int a3)] [] 117 zRF h := by
  intro a1 a3 h e
  unfold s_X10_findRounds_L69 at e
  refine zv_aload_n X dX10_findRounds_69 rfl rfl ?_
  refine zv_getR X zf_RX10_105 znt_a zk_67 zb_67 zr_67_37 dX10_findRounds_70 ?_
  refine zv_iload_n X dX10_findRounds_73 rfl rfl ?_
  refine zb e (fun v1 gv1 e => ?_)
  refine zv_iald X zk_98 zl_98 zb_98 dX10_findRounds_74 gv1 ?_
  refine zv_istore_n (i := 2) (lv' := [(2, .int v1), (0, .ref 67), (1, .int a1), (3, .int a3)]) X dX10_findRounds_75 rfl (Nat.le_of_ble_eq_true rfl) rfl ?_
  refine zv_iconst (v := (0 : Int32)) X dX10_findRounds_76 zic_0 ?_
  refine zv_istore (i := 4) (lv' := [(4, .int (0 : Int32)), (2, .int v1), (0, .ref 67), (1, .int a1), (3, .int a3)]) X dX10_findRounds_77 (Nat.le_of_ble_eq_true rfl) rfl ?_
  exact zv_pick X [2, 3, 1, 4, 0] rfl (k_X10_findRounds_L79 q hd X hk43 _ _ _ _ _ _ e)
set_option maxRecDepth 100000 in
set_option maxHeartbeats 4000000 in
theorem k_X10_findRounds_L267 {l : Launch} {D : va_G} {cy : Nat → ClassId} {S0 d : Nat} {J : zJ} (q : (Int32 × zHp)) (hd : 7 ≤ d) (X : zOK l D cy S0 d RX10 cX10_findRounds 5 (yX10_findRounds.name == "<init>") 117 117 (some .int) (zRT 117 zRF (some (.int q.1)) q.2) J) {k43 : Int32 → Int32 → Int32 → zHp → Option (Int32 × zHp)} (hk43 : ∀ (a1 : Int32) (a2 : Int32) (a3 : Int32) (h : zHp), k43 a1 a2 a3 h = some q → J 43 [(0, .ref 67), (1, .int a1), (2, .int a2), (3, .int a3)] [] 117 zRF h) : ∀ (a1 : Int32) (a2 : Int32) (a3 : Int32) (h : zHp), s_X10_findRounds_L267 k43 a1 a2 a3 h = some q → J 267 [(0, .ref 67), (1, .int a1), (2, .int a2), (3, .int a3)] [] 117 zRF h := by
  intro a1 a2 a3 h e
  unfold s_X10_findRounds_L267 at e
  refine zv_goto (tgt := 43) X dX10_findRounds_267 (by decide) ?_
  exact hk43 _ _ _ _ e
set_option maxRecDepth 100000 in
set_option maxHeartbeats 4000000 in
theorem k_X10_findRounds_L251 {l : Launch} {D : va_G} {cy : Nat → ClassId} {S0 d : Nat} {J : zJ} (q : (Int32 × zHp)) (hd : 7 ≤ d) (X : zOK l D cy S0 d RX10 cX10_findRounds 5 (yX10_findRounds.name == "<init>") 117 117 (some .int) (zRT 117 zRF (some (.int q.1)) q.2) J) {k43 : Int32 → Int32 → Int32 → zHp → Option (Int32 × zHp)} (hk43 : ∀ (a1 : Int32) (a2 : Int32) (a3 : Int32) (h : zHp), k43 a1 a2 a3 h = some q → J 43 [(0, .ref 67), (1, .int a1), (2, .int a2), (3, .int a3)] [] 117 zRF h) : ∀ (a1 : Int32) (a2 : Int32) (a3 : Int32) (h : zHp), s_X10_findRounds_L251 k43 a1 a2 a3 h = some q → J 251 [(0, .ref 67), (1, .int a1), (2, .int a2), (3, .int a3)] [] 117 zRF h := by
  intro a1 a2 a3 h e
  unfold s_X10_findRounds_L251 at e
  refine zv_iinc (k := 3) (v := a3 + (1 : Int32)) (lv' := [(3, .int (a3 + (1 : Int32))), (0, .ref 67), (1, .int a1), (2, .int a2)]) X dX10_findRounds_251 rfl rfl (Nat.le_of_ble_eq_true rfl) rfl ?_
  refine zv_iload_n X dX10_findRounds_254 rfl rfl ?_
  refine zv_bipush (v := (6 : Int32)) X dX10_findRounds_255 zbp_6 ?_
  refine zv_icmp_ge (tgt := 267) X dX10_findRounds_257 (by decide) (fun c1 => ?_) (fun c1 => ?_)
  · replace e := zit e c1
    exact zv_pick X [1, 2, 3, 0] rfl (k_X10_findRounds_L267 q hd X hk43 _ _ _ _ e)
  · replace e := zif e c1
    refine zv_aload_n X dX10_findRounds_260 rfl rfl ?_
    refine zv_getR X zf_RX10_99 znt_a zk_67 zb_67 zr_67_35 dX10_findRounds_261 ?_
    refine zv_iload_n X dX10_findRounds_264 rfl rfl ?_
    refine zv_iconst (v := (-1 : Int32)) X dX10_findRounds_265 zic_m1 ?_
    refine zb e (fun h2 gh2 e => ?_)
    refine zv_iast X zk_96 zl_96 zb_96 dX10_findRounds_266 gh2 ?_
    exact zv_pick X [1, 2, 3, 0] rfl (k_X10_findRounds_L267 q hd X hk43 _ _ _ _ e)
set_option maxRecDepth 100000 in
set_option maxHeartbeats 4000000 in
theorem k_X10_findRounds_L168 {l : Launch} {D : va_G} {cy : Nat → ClassId} {S0 d : Nat} {J : zJ} (q : (Int32 × zHp)) (hd : 7 ≤ d) (X : zOK l D cy S0 d RX10 cX10_findRounds 5 (yX10_findRounds.name == "<init>") 117 117 (some .int) (zRT 117 zRF (some (.int q.1)) q.2) J) {k43 : Int32 → Int32 → Int32 → zHp → Option (Int32 × zHp)} (hk43 : ∀ (a1 : Int32) (a2 : Int32) (a3 : Int32) (h : zHp), k43 a1 a2 a3 h = some q → J 43 [(0, .ref 67), (1, .int a1), (2, .int a2), (3, .int a3)] [] 117 zRF h) : ∀ (a1 : Int32) (a2 : Int32) (a3 : Int32) (a4 : Int32) (h : zHp), s_X10_findRounds_L168 k43 a1 a2 a3 a4 h = some q → J 168 [(0, .ref 67), (1, .int a1), (2, .int a2), (3, .int a3), (4, .int a4)] [] 117 zRF h := by
  intro a1 a2 a3 a4 h e
  unfold s_X10_findRounds_L168 at e
  refine zv_iload X dX10_findRounds_168 rfl ?_
  refine zv_bipush (v := (40 : Int32)) X dX10_findRounds_170 zbp_40 ?_
  refine zv_icmp_le (tgt := 181) X dX10_findRounds_172 (by decide) (fun c1 => ?_) (fun c1 => ?_)
  · replace e := zit e c1
    refine zv_aload_n X dX10_findRounds_181 rfl rfl ?_
    refine zv_getR X zf_RX10_99 znt_a zk_67 zb_67 zr_67_35 dX10_findRounds_182 ?_
    refine zv_iload_n X dX10_findRounds_185 rfl rfl ?_
    refine zv_iload X dX10_findRounds_186 rfl ?_
    refine zb e (fun h2 gh2 e => ?_)
    refine zv_iast X zk_96 zl_96 zb_96 dX10_findRounds_188 gh2 ?_
    refine zv_aload_n X dX10_findRounds_189 rfl rfl ?_
    refine zv_iload X dX10_findRounds_190 rfl ?_
    refine zv_iconst (v := (1 : Int32)) X dX10_findRounds_192 zic_1 ?_
    refine zb e (fun q3 gq3 e => ?_)
    refine zv_callV (stk := [.int (1 : Int32), .int a4, .ref 67]) (as := [.int a4, .int (1 : Int32)]) (st := []) (k := 67) X zl_RX10_241 zm_X10_use (k_X10_use (d := d - 1) (by omega) gq3) (by omega) zb_67 (by rw [zk_67]; rfl) rfl rfl (Nat.le_of_ble_eq_true rfl) (Nat.le_refl _) rfl dX10_findRounds_193 ?_
    show J 196 [(0, .ref 67), (1, .int a1), (2, .int a2), (3, .int a3), (4, .int a4)] [] 117 zRF q3
    refine zv_aload_n X dX10_findRounds_196 rfl rfl ?_
    refine zv_getR X zf_RX10_105 znt_a zk_67 zb_67 zr_67_37 dX10_findRounds_197 ?_
    refine zv_iload_n X dX10_findRounds_200 rfl rfl ?_
    refine zv_iconst (v := (1 : Int32)) X dX10_findRounds_201 zic_1 ?_
    refine zv_iadd X dX10_findRounds_202 ?_
    refine zv_aload_n X dX10_findRounds_203 rfl rfl ?_
    refine zv_getR X zf_RX10_105 znt_a zk_67 zb_67 zr_67_37 dX10_findRounds_204 ?_
    refine zv_iload_n X dX10_findRounds_207 rfl rfl ?_
    refine zb e (fun v4 gv4 e => ?_)
    refine zv_iald X zk_98 zl_98 zb_98 dX10_findRounds_208 gv4 ?_
    refine zv_aload_n X dX10_findRounds_209 rfl rfl ?_
    refine zv_getR X zf_RX10_93 znt_a zk_67 zb_67 zr_67_33 dX10_findRounds_210 ?_
    refine zv_bipush (v := (6 : Int32)) X dX10_findRounds_213 zbp_6 ?_
    refine zv_iload_n X dX10_findRounds_215 rfl rfl ?_
    refine zv_imul X dX10_findRounds_216 ?_
    refine zv_iload X dX10_findRounds_217 rfl ?_
    refine zv_bipush (v := (8 : Int32)) X dX10_findRounds_219 zbp_8 ?_
    refine zb e (fun v5 gv5 e => ?_)
    refine zv_idiv X dX10_findRounds_221 gv5 ?_
    refine zv_iadd X dX10_findRounds_222 ?_
    refine zb e (fun v6 gv6 e => ?_)
    refine zv_iald X zk_94 zl_94 zb_94 dX10_findRounds_223 gv6 ?_
    refine zv_iadd X dX10_findRounds_224 ?_
    refine zb e (fun h7 gh7 e => ?_)
    refine zv_iast X zk_98 zl_98 zb_98 dX10_findRounds_225 gh7 ?_
    refine zv_iload_n X dX10_findRounds_226 rfl rfl ?_
    refine zv_if_lt (tgt := 251) X dX10_findRounds_227 (by decide) (fun c8 => ?_) (fun c8 => ?_)
    · replace e := zit e c8
      exact zv_pick X [0, 1, 2, 3] rfl (k_X10_findRounds_L251 q hd X hk43 _ _ _ _ e)
    · replace e := zif e c8
      refine zv_aload_n X dX10_findRounds_230 rfl rfl ?_
      refine zv_getR X zf_RX10_105 znt_a zk_67 zb_67 zr_67_37 dX10_findRounds_231 ?_
      refine zv_iload_n X dX10_findRounds_234 rfl rfl ?_
      refine zv_iconst (v := (1 : Int32)) X dX10_findRounds_235 zic_1 ?_
      refine zv_iadd X dX10_findRounds_236 ?_
      refine zb e (fun v9 gv9 e => ?_)
      refine zv_iald X zk_98 zl_98 zb_98 dX10_findRounds_237 gv9 ?_
      refine zv_aload_n X dX10_findRounds_238 rfl rfl ?_
      refine zv_getR X zf_RX10_96 znt_a zk_67 zb_67 zr_67_34 dX10_findRounds_239 ?_
      refine zv_iload_n X dX10_findRounds_242 rfl rfl ?_
      refine zv_iconst (v := (1 : Int32)) X dX10_findRounds_243 zic_1 ?_
      refine zv_iadd X dX10_findRounds_244 ?_
      refine zb e (fun v10 gv10 e => ?_)
      refine zv_iald X zk_95 zl_95 zb_95 dX10_findRounds_245 gv10 ?_
      refine zv_iadd X dX10_findRounds_246 ?_
      refine zv_iload_n X dX10_findRounds_247 rfl rfl ?_
      refine zv_icmp_ge (tgt := 267) X dX10_findRounds_248 (by decide) (fun c11 => ?_) (fun c11 => ?_)
      · replace e := zit e c11
        exact zv_pick X [0, 1, 2, 3] rfl (k_X10_findRounds_L267 q hd X hk43 _ _ _ _ e)
      · replace e := zif e c11
        exact zv_pick X [0, 1, 2, 3] rfl (k_X10_findRounds_L251 q hd X hk43 _ _ _ _ e)
  · replace e := zif e c1
    refine zv_iinc (k := 3) (v := a3 + (-1 : Int32)) (lv' := [(3, .int (a3 + (-1 : Int32))), (0, .ref 67), (1, .int a1), (2, .int a2), (4, .int a4)]) X dX10_findRounds_175 rfl rfl (Nat.le_of_ble_eq_true rfl) rfl ?_
    refine zv_goto (tgt := 43) X dX10_findRounds_178 (by decide) ?_
    exact zv_pick X [1, 2, 3, 0] rfl (hk43 _ _ _ _ e)
set_option maxRecDepth 100000 in
set_option maxHeartbeats 4000000 in
theorem k_X10_findRounds_L144 {l : Launch} {D : va_G} {cy : Nat → ClassId} {S0 d : Nat} {J : zJ} (q : (Int32 × zHp)) (hd : 7 ≤ d) (X : zOK l D cy S0 d RX10 cX10_findRounds 5 (yX10_findRounds.name == "<init>") 117 117 (some .int) (zRT 117 zRF (some (.int q.1)) q.2) J) {k43 : Int32 → Int32 → Int32 → zHp → Option (Int32 × zHp)} (hk43 : ∀ (a1 : Int32) (a2 : Int32) (a3 : Int32) (h : zHp), k43 a1 a2 a3 h = some q → J 43 [(0, .ref 67), (1, .int a1), (2, .int a2), (3, .int a3)] [] 117 zRF h) : ∀ (f : Nat) (a1 : Int32) (a2 : Int32) (a3 : Int32) (a4 : Int32) (h : zHp), s_X10_findRounds_L144 k43 f a1 a2 a3 a4 h = some q → J 144 [(0, .ref 67), (1, .int a1), (2, .int a2), (3, .int a3), (4, .int a4)] [] 117 zRF h := by
  intro f
  induction f with
  | zero => intro _ _ _ _ h e; exact absurd e (fun z => by cases z)
  | succ f ih =>
    intro a1 a2 a3 a4 h e
    rw [s_X10_findRounds_L144] at e
    refine zv_iload X dX10_findRounds_144 rfl ?_
    refine zv_bipush (v := (40 : Int32)) X dX10_findRounds_146 zbp_40 ?_
    refine zv_icmp_gt (tgt := 168) X dX10_findRounds_148 (by decide) (fun c1 => ?_) (fun c1 => ?_)
    · replace e := zit e c1
      exact k_X10_findRounds_L168 q hd X hk43 _ _ _ _ _ e
    · replace e := zif e c1
      refine zv_aload_n X dX10_findRounds_151 rfl rfl ?_
      refine zv_iload_n X dX10_findRounds_152 rfl rfl ?_
      refine zv_iload X dX10_findRounds_153 rfl ?_
      refine zv_iload_n X dX10_findRounds_155 rfl rfl ?_
      refine zb e (fun q2 gq2 e => ?_)
      refine zv_callV (stk := [.int a1, .int a4, .int a3, .ref 67]) (as := [.int a3, .int a4, .int a1]) (st := []) (k := 67) X zl_RX10_245 zm_X10_mayTake (k_X10_mayTake (d := d - 1) (by omega) gq2) (by omega) zb_67 (by rw [zk_67]; rfl) rfl rfl (Nat.le_of_ble_eq_true rfl) (Nat.le_refl _) rfl dX10_findRounds_156 ?_
      show J 159 [(0, .ref 67), (1, .int a1), (2, .int a2), (3, .int a3), (4, .int a4)] [.int q2.1] 117 zRF q2.2
      refine zv_if_ne (tgt := 168) X dX10_findRounds_159 (by decide) (fun c3 => ?_) (fun c3 => ?_)
      · replace e := zif e c3
        exact k_X10_findRounds_L168 q hd X hk43 _ _ _ _ _ e
      · replace e := zit e c3
        refine zv_iinc (k := 4) (v := a4 + (1 : Int32)) (lv' := [(4, .int (a4 + (1 : Int32))), (0, .ref 67), (1, .int a1), (2, .int a2), (3, .int a3)]) X dX10_findRounds_162 rfl rfl (Nat.le_of_ble_eq_true rfl) rfl ?_
        refine zv_goto (tgt := 144) X dX10_findRounds_165 (by decide) ?_
        exact zv_pick X [1, 2, 3, 4, 0] rfl (ih _ _ _ _ _ e)
set_option maxRecDepth 100000 in
set_option maxHeartbeats 4000000 in
theorem k_X10_findRounds_L134 {l : Launch} {D : va_G} {cy : Nat → ClassId} {S0 d : Nat} {J : zJ} (q : (Int32 × zHp)) (hd : 7 ≤ d) (X : zOK l D cy S0 d RX10 cX10_findRounds 5 (yX10_findRounds.name == "<init>") 117 117 (some .int) (zRT 117 zRF (some (.int q.1)) q.2) J) {k43 : Int32 → Int32 → Int32 → zHp → Option (Int32 × zHp)} (hk43 : ∀ (a1 : Int32) (a2 : Int32) (a3 : Int32) (h : zHp), k43 a1 a2 a3 h = some q → J 43 [(0, .ref 67), (1, .int a1), (2, .int a2), (3, .int a3)] [] 117 zRF h) : ∀ (a1 : Int32) (a2 : Int32) (a3 : Int32) (h : zHp), s_X10_findRounds_L134 k43 a1 a2 a3 h = some q → J 134 [(0, .ref 67), (1, .int a1), (2, .int a2), (3, .int a3)] [] 117 zRF h := by
  intro a1 a2 a3 h e
  unfold s_X10_findRounds_L134 at e
  refine zv_aload_n X dX10_findRounds_134 rfl rfl ?_
  refine zv_getR X zf_RX10_99 znt_a zk_67 zb_67 zr_67_35 dX10_findRounds_135 ?_
  refine zv_iload_n X dX10_findRounds_138 rfl rfl ?_
  refine zb e (fun v1 gv1 e => ?_)
  refine zv_iald X zk_96 zl_96 zb_96 dX10_findRounds_139 gv1 ?_
  refine zv_iconst (v := (1 : Int32)) X dX10_findRounds_140 zic_1 ?_
  refine zv_iadd X dX10_findRounds_141 ?_
  refine zb e (fun v2 gv2 e => ?_)
  refine zv_nmI X gv2 ?_
  refine zv_istore (i := 4) (lv' := [(4, .int v2), (0, .ref 67), (1, .int a1), (2, .int a2), (3, .int a3)]) X dX10_findRounds_142 (Nat.le_of_ble_eq_true rfl) rfl ?_
  exact zv_pick X [1, 2, 3, 4, 0] rfl (k_X10_findRounds_L144 q hd X hk43 _ _ _ _ _ _ e)
set_option maxRecDepth 100000 in
set_option maxHeartbeats 4000000 in
theorem k_X10_findRounds_L43 {l : Launch} {D : va_G} {cy : Nat → ClassId} {S0 d : Nat} {J : zJ} (q : (Int32 × zHp)) (hd : 7 ≤ d) (X : zOK l D cy S0 d RX10 cX10_findRounds 5 (yX10_findRounds.name == "<init>") 117 117 (some .int) (zRT 117 zRF (some (.int q.1)) q.2) J) : ∀ (f : Nat) (a1 : Int32) (a2 : Int32) (a3 : Int32) (h : zHp), s_X10_findRounds_L43 f a1 a2 a3 h = some q → J 43 [(0, .ref 67), (1, .int a1), (2, .int a2), (3, .int a3)] [] 117 zRF h := by
  intro f
  induction f with
  | zero => intro _ _ _ h e; exact absurd e (fun z => by cases z)
  | succ f ih =>
    intro a1 a2 a3 h e
    rw [s_X10_findRounds_L43] at e
    refine zv_iload_n X dX10_findRounds_43 rfl rfl ?_
    refine zv_if_lt (tgt := 270) X dX10_findRounds_44 (by decide) (fun c1 => ?_) (fun c1 => ?_)
    · replace e := zit e c1
      refine zv_iload_n X dX10_findRounds_270 rfl rfl ?_
      exact zv_retI X e rfl dX10_findRounds_271
    · replace e := zif e c1
      refine zv_iload_n X dX10_findRounds_47 rfl rfl ?_
      refine zv_aload_n X dX10_findRounds_48 rfl rfl ?_
      refine zv_getI X zf_RX10_232 zk_67 zb_67 dX10_findRounds_49 ?_
      refine zv_icmp_ne (tgt := 114) X dX10_findRounds_52 (by decide) (fun c2 => ?_) (fun c2 => ?_)
      · replace e := zif e c2
        refine zv_aload_n X dX10_findRounds_114 rfl rfl ?_
        refine zv_getR X zf_RX10_99 znt_a zk_67 zb_67 zr_67_35 dX10_findRounds_115 ?_
        refine zv_iload_n X dX10_findRounds_118 rfl rfl ?_
        refine zb e (fun v3 gv3 e => ?_)
        refine zv_iald X zk_96 zl_96 zb_96 dX10_findRounds_119 gv3 ?_
        refine zv_if_lt (tgt := 134) X dX10_findRounds_120 (by decide) (fun c4 => ?_) (fun c4 => ?_)
        · replace e := zit e c4
          exact k_X10_findRounds_L134 q hd X ih _ _ _ _ e
        · replace e := zif e c4
          refine zv_aload_n X dX10_findRounds_123 rfl rfl ?_
          refine zv_aload_n X dX10_findRounds_124 rfl rfl ?_
          refine zv_getR X zf_RX10_99 znt_a zk_67 zb_67 zr_67_35 dX10_findRounds_125 ?_
          refine zv_iload_n X dX10_findRounds_128 rfl rfl ?_
          refine zb e (fun v5 gv5 e => ?_)
          refine zv_iald X zk_96 zl_96 zb_96 dX10_findRounds_129 gv5 ?_
          refine zv_iconst (v := (-1 : Int32)) X dX10_findRounds_130 zic_m1 ?_
          refine zb e (fun q6 gq6 e => ?_)
          refine zv_callV (stk := [.int (-1 : Int32), .int v5, .ref 67]) (as := [.int v5, .int (-1 : Int32)]) (st := []) (k := 67) X zl_RX10_241 zm_X10_use (k_X10_use (d := d - 1) (by omega) gq6) (by omega) zb_67 (by rw [zk_67]; rfl) rfl rfl (Nat.le_of_ble_eq_true rfl) (Nat.le_refl _) rfl dX10_findRounds_131 ?_
          show J 134 [(0, .ref 67), (1, .int a1), (2, .int a2), (3, .int a3)] [] 117 zRF q6
          exact k_X10_findRounds_L134 q hd X ih _ _ _ _ e
      · replace e := zit e c2
        refine zv_iload_n X dX10_findRounds_55 rfl rfl ?_
        refine zv_if_lt (tgt := 69) X dX10_findRounds_56 (by decide) (fun c7 => ?_) (fun c7 => ?_)
        · replace e := zit e c7
          exact zv_pick X [0, 1, 3] rfl (k_X10_findRounds_L69 q hd X ih _ _ _ e)
        · replace e := zif e c7
          refine zv_aload_n X dX10_findRounds_59 rfl rfl ?_
          refine zv_getR X zf_RX10_105 znt_a zk_67 zb_67 zr_67_37 dX10_findRounds_60 ?_
          refine zv_iload_n X dX10_findRounds_63 rfl rfl ?_
          refine zb e (fun v8 gv8 e => ?_)
          refine zv_iald X zk_98 zl_98 zb_98 dX10_findRounds_64 gv8 ?_
          refine zv_iload_n X dX10_findRounds_65 rfl rfl ?_
          refine zv_icmp_ge (tgt := 108) X dX10_findRounds_66 (by decide) (fun c9 => ?_) (fun c9 => ?_)
          · replace e := zit e c9
            exact k_X10_findRounds_L108 q hd X ih _ _ _ _ e
          · replace e := zif e c9
            exact zv_pick X [0, 1, 3] rfl (k_X10_findRounds_L69 q hd X ih _ _ _ e)
set_option maxRecDepth 100000 in
set_option maxHeartbeats 4000000 in
theorem k_X10_findRounds_L6 {l : Launch} {D : va_G} {cy : Nat → ClassId} {S0 d : Nat} {J : zJ} (q : (Int32 × zHp)) (hd : 7 ≤ d) (X : zOK l D cy S0 d RX10 cX10_findRounds 5 (yX10_findRounds.name == "<init>") 117 117 (some .int) (zRT 117 zRF (some (.int q.1)) q.2) J) : ∀ (f : Nat) (a1 : Int32) (a2 : Int32) (h : zHp), s_X10_findRounds_L6 f a1 a2 h = some q → J 6 [(0, .ref 67), (1, .int a1), (2, .int a2)] [] 117 zRF h := by
  intro f
  induction f with
  | zero => intro _ _ h e; exact absurd e (fun z => by cases z)
  | succ f ih =>
    intro a1 a2 h e
    rw [s_X10_findRounds_L6] at e
    refine zv_iload_n X dX10_findRounds_6 rfl rfl ?_
    refine zv_bipush (v := (15 : Int32)) X dX10_findRounds_7 zbp_15 ?_
    refine zv_icmp_ge (tgt := 25) X dX10_findRounds_9 (by decide) (fun c1 => ?_) (fun c1 => ?_)
    · replace e := zit e c1
      refine zv_iconst (v := (-1 : Int32)) X dX10_findRounds_25 zic_m1 ?_
      refine zv_istore_n (i := 2) (lv' := [(2, .int (-1 : Int32)), (0, .ref 67), (1, .int a1)]) X dX10_findRounds_26 rfl (Nat.le_of_ble_eq_true rfl) rfl ?_
      refine zv_iconst (v := (0 : Int32)) X dX10_findRounds_27 zic_0 ?_
      refine zv_istore_n (i := 3) (lv' := [(3, .int (0 : Int32)), (2, .int (-1 : Int32)), (0, .ref 67), (1, .int a1)]) X dX10_findRounds_28 rfl (Nat.le_of_ble_eq_true rfl) rfl ?_
      refine zv_aload_n X dX10_findRounds_29 rfl rfl ?_
      refine zv_getR X zf_RX10_105 znt_a zk_67 zb_67 zr_67_37 dX10_findRounds_30 ?_
      refine zv_iconst (v := (0 : Int32)) X dX10_findRounds_33 zic_0 ?_
      refine zv_iconst (v := (0 : Int32)) X dX10_findRounds_34 zic_0 ?_
      refine zb e (fun h2 gh2 e => ?_)
      refine zv_iast X zk_98 zl_98 zb_98 dX10_findRounds_35 gh2 ?_
      refine zv_aload_n X dX10_findRounds_36 rfl rfl ?_
      refine zv_getR X zf_RX10_99 znt_a zk_67 zb_67 zr_67_35 dX10_findRounds_37 ?_
      refine zv_iconst (v := (0 : Int32)) X dX10_findRounds_40 zic_0 ?_
      refine zv_iconst (v := (-1 : Int32)) X dX10_findRounds_41 zic_m1 ?_
      refine zb e (fun h3 gh3 e => ?_)
      refine zv_iast X zk_96 zl_96 zb_96 dX10_findRounds_42 gh3 ?_
      exact zv_pick X [2, 3, 1, 0] rfl (k_X10_findRounds_L43 q hd X _ _ _ _ _ e)
    · replace e := zif e c1
      refine zv_aload_n X dX10_findRounds_12 rfl rfl ?_
      refine zv_getR X zf_RX10_108 znt_a zk_67 zb_67 zr_67_38 dX10_findRounds_13 ?_
      refine zv_iload_n X dX10_findRounds_16 rfl rfl ?_
      refine zv_iconst (v := (0 : Int32)) X dX10_findRounds_17 zic_0 ?_
      refine zb e (fun h4 gh4 e => ?_)
      refine zv_iast X zk_99 zl_99 zb_99 dX10_findRounds_18 gh4 ?_
      refine zv_iinc (k := 2) (v := a2 + (1 : Int32)) (lv' := [(2, .int (a2 + (1 : Int32))), (0, .ref 67), (1, .int a1)]) X dX10_findRounds_19 rfl rfl (Nat.le_of_ble_eq_true rfl) rfl ?_
      refine zv_goto (tgt := 6) X dX10_findRounds_22 (by decide) ?_
      exact zv_pick X [1, 2, 0] rfl (ih _ _ _ e)
set_option maxRecDepth 100000 in
set_option maxHeartbeats 4000000 in
theorem k_X10_findRounds {l : Launch} {D : va_G} {cy : Nat → ClassId} {S0 d : Nat} (hd : 7 ≤ d) {a1 : Int32} {h : zHp} {q : (Int32 × zHp)} (e : s_X10_findRounds a1 h = some q) : zCT l D cy S0 d yX10_findRounds cX10_findRounds 5 (some .int) [.ref 67, .int a1] 117 zRF h (some (.int q.1)) 117 zRF q.2 := by
  unfold s_X10_findRounds at e
  refine zCT_of RX10 rfl zm_X10_findRounds (Nat.le_refl _) (Nat.le_of_ble_eq_true rfl) (fun J X => ?_)
  show J 0 [(0, .ref 67), (1, .int a1)] [] 117 zRF h
  refine zv_aload_n X dX10_findRounds_0 rfl rfl ?_
  refine zb e (fun q1 gq1 e => ?_)
  refine zv_callV (stk := [.ref 67]) (as := []) (st := []) (k := 67) X zl_RX10_238 zm_X10_ask (k_X10_ask (d := d - 1) (by omega) gq1) (by omega) zb_67 (by rw [zk_67]; rfl) rfl rfl (Nat.le_of_ble_eq_true rfl) (Nat.le_refl _) rfl dX10_findRounds_1 ?_
  show J 4 [(0, .ref 67), (1, .int a1)] [] 117 zRF q1
  refine zv_iconst (v := (0 : Int32)) X dX10_findRounds_4 zic_0 ?_
  refine zv_istore_n (i := 2) (lv' := [(2, .int (0 : Int32)), (0, .ref 67), (1, .int a1)]) X dX10_findRounds_5 rfl (Nat.le_of_ble_eq_true rfl) rfl ?_
  exact zv_pick X [1, 2, 0] rfl (k_X10_findRounds_L6 q hd X _ _ _ _ e)

-- X10_findDoubles
def s_X10_findDoubles_L168 (k50 : Int32 → zHp → Option zHp) (k60 : Int32 → Int32 → zHp → Option zHp) (a1 : Int32) (a2 : Int32) (h : zHp) : Option zHp :=
  k60 a1 (a2 + (1 : Int32)) h
def s_X10_findDoubles_L60 (k50 : Int32 → zHp → Option zHp) : Nat → Int32 → Int32 → zHp → Option zHp
  | 0, _, _, _ => none
  | f + 1, a1, a2, h =>
  if a1 ≤ a2 then
    k50 (a1 + (1 : Int32)) h
  else
    (s_X10_isDouble a1 a2 h).bind fun q2 =>
    if q2.1 = 0 then
      s_X10_findDoubles_L168 k50 (s_X10_findDoubles_L60 k50 f) a1 a2 q2.2
    else
      (zri q2.2 83 80 a1).bind fun v4 =>
      (zri q2.2 83 80 a2).bind fun v5 =>
      (zri q2.2 84 80 a1).bind fun v6 =>
      (s_X10_scoreOf a1 v6 q2.2).bind fun q7 =>
      (zri q7.2 84 80 a2).bind fun v8 =>
      (s_X10_scoreOf a2 v8 q7.2).bind fun q9 =>
      (some ((q7.1 - q9.1).toInt64)).bind fun v10 =>
      (some (((5 : Int32) * v4) + v5)).bind fun v11 =>
      (zrj q9.2 100 25 v11).bind fun v12 =>
      (zuj q9.2 100 25 v11 (v12 + (1 : Int64))).bind fun h13 =>
      (some (((5 : Int32) * v5) + v4)).bind fun v14 =>
      (zrj h13 100 25 v14).bind fun v15 =>
      (zuj h13 100 25 v14 (v15 + (1 : Int64))).bind fun h16 =>
      (zrj h16 101 5 v4).bind fun v17 =>
      (zuj h16 101 5 v4 (v17 + v10)).bind fun h18 =>
      (zrj h18 101 5 v5).bind fun v19 =>
      (zuj h18 101 5 v5 (v19 - v10)).bind fun h20 =>
      s_X10_findDoubles_L168 k50 (s_X10_findDoubles_L60 k50 f) a1 a2 h20
def s_X10_findDoubles_L253 (k182 : Int32 → zHp → Option zHp) (k189 : Int32 → Int32 → zHp → Option zHp) (a1 : Int32) (a2 : Int32) (b1 : Int32) (b2 : Int32) (h : zHp) : Option zHp :=
  (zui h 102 5 b1 b2).bind fun h1 =>
  k189 a1 (a2 + (1 : Int32)) h1
def s_X10_findDoubles_L246 (k182 : Int32 → zHp → Option zHp) (k189 : Int32 → Int32 → zHp → Option zHp) (a1 : Int32) (a2 : Int32) (a4 : Int32) (b1 : Int32) (h : zHp) : Option zHp :=
  (zri h 102 5 a4).bind fun v1 =>
  s_X10_findDoubles_L253 k182 k189 a1 a2 b1 v1 h
def s_X10_findDoubles_L189 (k182 : Int32 → zHp → Option zHp) : Nat → Int32 → Int32 → zHp → Option zHp
  | 0, _, _, _ => none
  | f + 1, a1, a2, h =>
  if (25 : Int32) ≤ a2 then
    k182 (a1 + (1 : Int32)) h
  else
    (zdiv a2 (5 : Int32)).bind fun v2 =>
    (zrem a2 (5 : Int32)).bind fun v3 =>
    (zrj h 100 25 a2).bind fun v4 =>
    if v4 ≤ (0 : Int64) then
      s_X10_findDoubles_L246 k182 (s_X10_findDoubles_L189 k182 f) a1 a2 v3 v3 h
    else
      (zri h 102 5 v2).bind fun v6 =>
      (zri h 102 5 v3).bind fun v7 =>
      if v7 ≤ v6 then
        s_X10_findDoubles_L246 k182 (s_X10_findDoubles_L189 k182 f) a1 a2 v3 v3 h
      else
        (zri h 102 5 v2).bind fun v9 =>
        s_X10_findDoubles_L253 k182 (s_X10_findDoubles_L189 k182 f) a1 a2 v3 v9 h
def s_X10_findDoubles_L182 : Nat → Int32 → zHp → Option zHp
  | 0, _, _ => none
  | f + 1, a1, h =>
  if (5 : Int32) ≤ a1 then
    some h
  else
    s_X10_findDoubles_L189 (s_X10_findDoubles_L182 f) zFU a1 (0 : Int32) h
def s_X10_findDoubles_L50 : Nat → Int32 → zHp → Option zHp
  | 0, _, _ => none
  | f + 1, a1, h =>
  if (h.1 67 17) ≤ a1 then
    s_X10_findDoubles_L182 zFU (0 : Int32) h
  else
    s_X10_findDoubles_L60 (s_X10_findDoubles_L50 f) zFU a1 (0 : Int32) h
def s_X10_findDoubles_L23 : Nat → Int32 → zHp → Option zHp
  | 0, _, _ => none
  | f + 1, a1, h =>
  if (5 : Int32) ≤ a1 then
    s_X10_findDoubles_L50 zFU (0 : Int32) h
  else
    (zuj h 101 5 a1 (0 : Int64)).bind fun h2 =>
    (zui h2 102 5 a1 a1).bind fun h3 =>
    s_X10_findDoubles_L23 f (a1 + (1 : Int32)) h3
def s_X10_findDoubles_L2 : Nat → Int32 → zHp → Option zHp
  | 0, _, _ => none
  | f + 1, a1, h =>
  if (25 : Int32) ≤ a1 then
    s_X10_findDoubles_L23 zFU (0 : Int32) h
  else
    (zuj h 100 25 a1 (0 : Int64)).bind fun h2 =>
    s_X10_findDoubles_L2 f (a1 + (1 : Int32)) h2
def s_X10_findDoubles  (h : zHp) : Option zHp :=
  s_X10_findDoubles_L2 zFU (0 : Int32) h
set_option maxRecDepth 100000 in
set_option maxHeartbeats 4000000 in
theorem k_X10_findDoubles_L168 {l : Launch} {D : va_G} {cy : Nat → ClassId} {S0 d : Nat} {J : zJ} (q : zHp) (hd : 2 ≤ d) (X : zOK l D cy S0 d RX10 cX10_findDoubles 7 (yX10_findDoubles.name == "<init>") 117 117 none (zRT 117 zRF none q) J) {k50 : Int32 → zHp → Option zHp} (hk50 : ∀ (a1 : Int32) (h : zHp), k50 a1 h = some q → J 50 [(0, .ref 67), (1, .int a1)] [] 117 zRF h) {k60 : Int32 → Int32 → zHp → Option zHp} (hk60 : ∀ (a1 : Int32) (a2 : Int32) (h : zHp), k60 a1 a2 h = some q → J 60 [(0, .ref 67), (1, .int a1), (2, .int a2)] [] 117 zRF h) : ∀ (a1 : Int32) (a2 : Int32) (h : zHp), s_X10_findDoubles_L168 k50 k60 a1 a2 h = some q → J 168 [(0, .ref 67), (1, .int a1), (2, .int a2)] [] 117 zRF h := by
  intro a1 a2 h e
  unfold s_X10_findDoubles_L168 at e
  refine zv_iinc (k := 2) (v := a2 + (1 : Int32)) (lv' := [(2, .int (a2 + (1 : Int32))), (0, .ref 67), (1, .int a1)]) X dX10_findDoubles_168 rfl rfl (Nat.le_of_ble_eq_true rfl) rfl ?_
  refine zv_goto (tgt := 60) X dX10_findDoubles_171 (by decide) ?_
  exact zv_pick X [1, 2, 0] rfl (hk60 _ _ _ e)
set_option maxRecDepth 100000 in
set_option maxHeartbeats 4000000 in
theorem k_X10_findDoubles_L60 {l : Launch} {D : va_G} {cy : Nat → ClassId} {S0 d : Nat} {J : zJ} (q : zHp) (hd : 2 ≤ d) (X : zOK l D cy S0 d RX10 cX10_findDoubles 7 (yX10_findDoubles.name == "<init>") 117 117 none (zRT 117 zRF none q) J) {k50 : Int32 → zHp → Option zHp} (hk50 : ∀ (a1 : Int32) (h : zHp), k50 a1 h = some q → J 50 [(0, .ref 67), (1, .int a1)] [] 117 zRF h) : ∀ (f : Nat) (a1 : Int32) (a2 : Int32) (h : zHp), s_X10_findDoubles_L60 k50 f a1 a2 h = some q → J 60 [(0, .ref 67), (1, .int a1), (2, .int a2)] [] 117 zRF h := by
  intro f
  induction f with
  | zero => intro _ _ h e; exact absurd e (fun z => by cases z)
  | succ f ih =>
    intro a1 a2 h e
    rw [s_X10_findDoubles_L60] at e
    refine zv_iload_n X dX10_findDoubles_60 rfl rfl ?_
    refine zv_iload_n X dX10_findDoubles_61 rfl rfl ?_
    refine zv_icmp_ge (tgt := 174) X dX10_findDoubles_62 (by decide) (fun c1 => ?_) (fun c1 => ?_)
    · replace e := zit e c1
      refine zv_iinc (k := 1) (v := a1 + (1 : Int32)) (lv' := [(1, .int (a1 + (1 : Int32))), (0, .ref 67), (2, .int a2)]) X dX10_findDoubles_174 rfl rfl (Nat.le_of_ble_eq_true rfl) rfl ?_
      refine zv_goto (tgt := 50) X dX10_findDoubles_177 (by decide) ?_
      exact zv_pick X [1, 0] rfl (hk50 _ _ e)
    · replace e := zif e c1
      refine zv_aload_n X dX10_findDoubles_65 rfl rfl ?_
      refine zv_iload_n X dX10_findDoubles_66 rfl rfl ?_
      refine zv_iload_n X dX10_findDoubles_67 rfl rfl ?_
      refine zb e (fun q2 gq2 e => ?_)
      refine zv_callV (stk := [.int a2, .int a1, .ref 67]) (as := [.int a1, .int a2]) (st := []) (k := 67) X zl_RX10_254 zm_X10_isDouble (k_X10_isDouble (d := d - 1) (by omega) gq2) (by omega) zb_67 (by rw [zk_67]; rfl) rfl rfl (Nat.le_of_ble_eq_true rfl) (Nat.le_refl _) rfl dX10_findDoubles_68 ?_
      show J 71 [(0, .ref 67), (1, .int a1), (2, .int a2)] [.int q2.1] 117 zRF q2.2
      refine zv_if_eq (tgt := 168) X dX10_findDoubles_71 (by decide) (fun c3 => ?_) (fun c3 => ?_)
      · replace e := zit e c3
        exact k_X10_findDoubles_L168 q hd X hk50 ih _ _ _ e
      · replace e := zif e c3
        refine zv_aload_n X dX10_findDoubles_74 rfl rfl ?_
        refine zv_getR X zf_RX10_56 znt_a zk_67 zb_67 zr_67_19 dX10_findDoubles_75 ?_
        refine zv_iload_n X dX10_findDoubles_78 rfl rfl ?_
        refine zb e (fun v4 gv4 e => ?_)
        refine zv_iald X zk_83 zl_83 zb_83 dX10_findDoubles_79 gv4 ?_
        refine zv_istore_n (i := 3) (lv' := [(3, .int v4), (0, .ref 67), (1, .int a1), (2, .int a2)]) X dX10_findDoubles_80 rfl (Nat.le_of_ble_eq_true rfl) rfl ?_
        refine zv_aload_n X dX10_findDoubles_81 rfl rfl ?_
        refine zv_getR X zf_RX10_56 znt_a zk_67 zb_67 zr_67_19 dX10_findDoubles_82 ?_
        refine zv_iload_n X dX10_findDoubles_85 rfl rfl ?_
        refine zb e (fun v5 gv5 e => ?_)
        refine zv_iald X zk_83 zl_83 zb_83 dX10_findDoubles_86 gv5 ?_
        refine zv_istore (i := 4) (lv' := [(4, .int v5), (3, .int v4), (0, .ref 67), (1, .int a1), (2, .int a2)]) X dX10_findDoubles_87 (Nat.le_of_ble_eq_true rfl) rfl ?_
        refine zv_aload_n X dX10_findDoubles_89 rfl rfl ?_
        refine zv_iload_n X dX10_findDoubles_90 rfl rfl ?_
        refine zv_aload_n X dX10_findDoubles_91 rfl rfl ?_
        refine zv_getR X zf_RX10_59 znt_a zk_67 zb_67 zr_67_20 dX10_findDoubles_92 ?_
        refine zv_iload_n X dX10_findDoubles_95 rfl rfl ?_
        refine zb e (fun v6 gv6 e => ?_)
        refine zv_iald X zk_84 zl_84 zb_84 dX10_findDoubles_96 gv6 ?_
        refine zb e (fun q7 gq7 e => ?_)
        refine zv_callV (stk := [.int v6, .int a1, .ref 67]) (as := [.int a1, .int v6]) (st := []) (k := 67) X zl_RX10_202 zm_X10_scoreOf (k_X10_scoreOf (d := d - 1) (by omega) gq7) (by omega) zb_67 (by rw [zk_67]; rfl) rfl rfl (Nat.le_of_ble_eq_true rfl) (Nat.le_refl _) rfl dX10_findDoubles_97 ?_
        show J 100 [(4, .int v5), (3, .int v4), (0, .ref 67), (1, .int a1), (2, .int a2)] [.int q7.1] 117 zRF q7.2
        refine zv_aload_n X dX10_findDoubles_100 rfl rfl ?_
        refine zv_iload_n X dX10_findDoubles_101 rfl rfl ?_
        refine zv_aload_n X dX10_findDoubles_102 rfl rfl ?_
        refine zv_getR X zf_RX10_59 znt_a zk_67 zb_67 zr_67_20 dX10_findDoubles_103 ?_
        refine zv_iload_n X dX10_findDoubles_106 rfl rfl ?_
        refine zb e (fun v8 gv8 e => ?_)
        refine zv_iald X zk_84 zl_84 zb_84 dX10_findDoubles_107 gv8 ?_
        refine zb e (fun q9 gq9 e => ?_)
        refine zv_callV (stk := [.int v8, .int a2, .ref 67, .int q7.1]) (as := [.int a2, .int v8]) (st := [.int q7.1]) (k := 67) X zl_RX10_202 zm_X10_scoreOf (k_X10_scoreOf (d := d - 1) (by omega) gq9) (by omega) zb_67 (by rw [zk_67]; rfl) rfl rfl (Nat.le_of_ble_eq_true rfl) (Nat.le_refl _) rfl dX10_findDoubles_108 ?_
        show J 111 [(4, .int v5), (3, .int v4), (0, .ref 67), (1, .int a1), (2, .int a2)] [.int q9.1, .int q7.1] 117 zRF q9.2
        refine zv_isub X dX10_findDoubles_111 ?_
        refine zv_i2l X dX10_findDoubles_112 ?_
        refine zb e (fun v10 gv10 e => ?_)
        refine zv_nmJ X gv10 ?_
        refine zv_lstore (i := 5) (lv' := [(5, .long v10), (4, .int v5), (3, .int v4), (0, .ref 67), (1, .int a1), (2, .int a2)]) X dX10_findDoubles_113 (Nat.le_of_ble_eq_true rfl) rfl ?_
        refine zv_aload_n X dX10_findDoubles_115 rfl rfl ?_
        refine zv_getR X zf_RX10_111 znt_a zk_67 zb_67 zr_67_39 dX10_findDoubles_116 ?_
        refine zv_iconst (v := (5 : Int32)) X dX10_findDoubles_119 zic_5 ?_
        refine zv_iload_n X dX10_findDoubles_120 rfl rfl ?_
        refine zv_imul X dX10_findDoubles_121 ?_
        refine zv_iload X dX10_findDoubles_122 rfl ?_
        refine zv_iadd X dX10_findDoubles_124 ?_
        refine zb e (fun v11 gv11 e => ?_)
        refine zv_nmI X gv11 ?_
        refine zv_dup2 X dX10_findDoubles_125 ?_
        refine zb e (fun v12 gv12 e => ?_)
        refine zv_lald X zk_100 zl_100 zb_100 dX10_findDoubles_126 gv12 ?_
        refine zv_lconst (v := (1 : Int64)) X dX10_findDoubles_127 rfl ?_
        refine zv_ladd X dX10_findDoubles_128 ?_
        refine zb e (fun h13 gh13 e => ?_)
        refine zv_last X zk_100 zl_100 zb_100 dX10_findDoubles_129 gh13 ?_
        refine zv_aload_n X dX10_findDoubles_130 rfl rfl ?_
        refine zv_getR X zf_RX10_111 znt_a zk_67 zb_67 zr_67_39 dX10_findDoubles_131 ?_
        refine zv_iconst (v := (5 : Int32)) X dX10_findDoubles_134 zic_5 ?_
        refine zv_iload X dX10_findDoubles_135 rfl ?_
        refine zv_imul X dX10_findDoubles_137 ?_
        refine zv_iload_n X dX10_findDoubles_138 rfl rfl ?_
        refine zv_iadd X dX10_findDoubles_139 ?_
        refine zb e (fun v14 gv14 e => ?_)
        refine zv_nmI X gv14 ?_
        refine zv_dup2 X dX10_findDoubles_140 ?_
        refine zb e (fun v15 gv15 e => ?_)
        refine zv_lald X zk_100 zl_100 zb_100 dX10_findDoubles_141 gv15 ?_
        refine zv_lconst (v := (1 : Int64)) X dX10_findDoubles_142 rfl ?_
        refine zv_ladd X dX10_findDoubles_143 ?_
        refine zb e (fun h16 gh16 e => ?_)
        refine zv_last X zk_100 zl_100 zb_100 dX10_findDoubles_144 gh16 ?_
        refine zv_aload_n X dX10_findDoubles_145 rfl rfl ?_
        refine zv_getR X zf_RX10_115 znt_a zk_67 zb_67 zr_67_40 dX10_findDoubles_146 ?_
        refine zv_iload_n X dX10_findDoubles_149 rfl rfl ?_
        refine zv_dup2 X dX10_findDoubles_150 ?_
        refine zb e (fun v17 gv17 e => ?_)
        refine zv_lald X zk_101 zl_101 zb_101 dX10_findDoubles_151 gv17 ?_
        refine zv_lload X dX10_findDoubles_152 rfl ?_
        refine zv_ladd X dX10_findDoubles_154 ?_
        refine zb e (fun h18 gh18 e => ?_)
        refine zv_last X zk_101 zl_101 zb_101 dX10_findDoubles_155 gh18 ?_
        refine zv_aload_n X dX10_findDoubles_156 rfl rfl ?_
        refine zv_getR X zf_RX10_115 znt_a zk_67 zb_67 zr_67_40 dX10_findDoubles_157 ?_
        refine zv_iload X dX10_findDoubles_160 rfl ?_
        refine zv_dup2 X dX10_findDoubles_162 ?_
        refine zb e (fun v19 gv19 e => ?_)
        refine zv_lald X zk_101 zl_101 zb_101 dX10_findDoubles_163 gv19 ?_
        refine zv_lload X dX10_findDoubles_164 rfl ?_
        refine zv_lsub X dX10_findDoubles_166 ?_
        refine zb e (fun h20 gh20 e => ?_)
        refine zv_last X zk_101 zl_101 zb_101 dX10_findDoubles_167 gh20 ?_
        exact zv_pick X [3, 4, 5] rfl (k_X10_findDoubles_L168 q hd X hk50 ih _ _ _ e)
set_option maxRecDepth 100000 in
set_option maxHeartbeats 4000000 in
theorem k_X10_findDoubles_L253 {l : Launch} {D : va_G} {cy : Nat → ClassId} {S0 d : Nat} {J : zJ} (q : zHp) (hd : 2 ≤ d) (X : zOK l D cy S0 d RX10 cX10_findDoubles 7 (yX10_findDoubles.name == "<init>") 117 117 none (zRT 117 zRF none q) J) {k182 : Int32 → zHp → Option zHp} (hk182 : ∀ (a1 : Int32) (h : zHp), k182 a1 h = some q → J 182 [(0, .ref 67), (1, .int a1)] [] 117 zRF h) {k189 : Int32 → Int32 → zHp → Option zHp} (hk189 : ∀ (a1 : Int32) (a2 : Int32) (h : zHp), k189 a1 a2 h = some q → J 189 [(0, .ref 67), (1, .int a1), (2, .int a2)] [] 117 zRF h) : ∀ (a1 : Int32) (a2 : Int32) (b1 : Int32) (b2 : Int32) (h : zHp), s_X10_findDoubles_L253 k182 k189 a1 a2 b1 b2 h = some q → J 253 [(0, .ref 67), (1, .int a1), (2, .int a2)] [.int b2, .int b1, .ref 102] 117 zRF h := by
  intro a1 a2 b1 b2 h e
  unfold s_X10_findDoubles_L253 at e
  refine zb e (fun h1 gh1 e => ?_)
  refine zv_iast X zk_102 zl_102 zb_102 dX10_findDoubles_253 gh1 ?_
  refine zv_iinc (k := 2) (v := a2 + (1 : Int32)) (lv' := [(2, .int (a2 + (1 : Int32))), (0, .ref 67), (1, .int a1)]) X dX10_findDoubles_254 rfl rfl (Nat.le_of_ble_eq_true rfl) rfl ?_
  refine zv_goto (tgt := 189) X dX10_findDoubles_257 (by decide) ?_
  exact zv_pick X [1, 2, 0] rfl (hk189 _ _ _ e)
set_option maxRecDepth 100000 in
set_option maxHeartbeats 4000000 in
theorem k_X10_findDoubles_L246 {l : Launch} {D : va_G} {cy : Nat → ClassId} {S0 d : Nat} {J : zJ} (q : zHp) (hd : 2 ≤ d) (X : zOK l D cy S0 d RX10 cX10_findDoubles 7 (yX10_findDoubles.name == "<init>") 117 117 none (zRT 117 zRF none q) J) {k182 : Int32 → zHp → Option zHp} (hk182 : ∀ (a1 : Int32) (h : zHp), k182 a1 h = some q → J 182 [(0, .ref 67), (1, .int a1)] [] 117 zRF h) {k189 : Int32 → Int32 → zHp → Option zHp} (hk189 : ∀ (a1 : Int32) (a2 : Int32) (h : zHp), k189 a1 a2 h = some q → J 189 [(0, .ref 67), (1, .int a1), (2, .int a2)] [] 117 zRF h) : ∀ (a1 : Int32) (a2 : Int32) (a4 : Int32) (b1 : Int32) (h : zHp), s_X10_findDoubles_L246 k182 k189 a1 a2 a4 b1 h = some q → J 246 [(0, .ref 67), (1, .int a1), (2, .int a2), (4, .int a4)] [.int b1, .ref 102] 117 zRF h := by
  intro a1 a2 a4 b1 h e
  unfold s_X10_findDoubles_L246 at e
  refine zv_aload_n X dX10_findDoubles_246 rfl rfl ?_
  refine zv_getR X zf_RX10_118 znt_a zk_67 zb_67 zr_67_41 dX10_findDoubles_247 ?_
  refine zv_iload X dX10_findDoubles_250 rfl ?_
  refine zb e (fun v1 gv1 e => ?_)
  refine zv_iald X zk_102 zl_102 zb_102 dX10_findDoubles_252 gv1 ?_
  exact zv_pick X [0, 1, 2] rfl (k_X10_findDoubles_L253 q hd X hk182 hk189 _ _ _ _ _ e)
set_option maxRecDepth 100000 in
set_option maxHeartbeats 4000000 in
theorem k_X10_findDoubles_L189 {l : Launch} {D : va_G} {cy : Nat → ClassId} {S0 d : Nat} {J : zJ} (q : zHp) (hd : 2 ≤ d) (X : zOK l D cy S0 d RX10 cX10_findDoubles 7 (yX10_findDoubles.name == "<init>") 117 117 none (zRT 117 zRF none q) J) {k182 : Int32 → zHp → Option zHp} (hk182 : ∀ (a1 : Int32) (h : zHp), k182 a1 h = some q → J 182 [(0, .ref 67), (1, .int a1)] [] 117 zRF h) : ∀ (f : Nat) (a1 : Int32) (a2 : Int32) (h : zHp), s_X10_findDoubles_L189 k182 f a1 a2 h = some q → J 189 [(0, .ref 67), (1, .int a1), (2, .int a2)] [] 117 zRF h := by
  intro f
  induction f with
  | zero => intro _ _ h e; exact absurd e (fun z => by cases z)
  | succ f ih =>
    intro a1 a2 h e
    rw [s_X10_findDoubles_L189] at e
    refine zv_iload_n X dX10_findDoubles_189 rfl rfl ?_
    refine zv_bipush (v := (25 : Int32)) X dX10_findDoubles_190 zbp_25 ?_
    refine zv_icmp_ge (tgt := 260) X dX10_findDoubles_192 (by decide) (fun c1 => ?_) (fun c1 => ?_)
    · replace e := zit e c1
      refine zv_iinc (k := 1) (v := a1 + (1 : Int32)) (lv' := [(1, .int (a1 + (1 : Int32))), (0, .ref 67), (2, .int a2)]) X dX10_findDoubles_260 rfl rfl (Nat.le_of_ble_eq_true rfl) rfl ?_
      refine zv_goto (tgt := 182) X dX10_findDoubles_263 (by decide) ?_
      exact zv_pick X [1, 0] rfl (hk182 _ _ e)
    · replace e := zif e c1
      refine zv_iload_n X dX10_findDoubles_195 rfl rfl ?_
      refine zv_iconst (v := (5 : Int32)) X dX10_findDoubles_196 zic_5 ?_
      refine zb e (fun v2 gv2 e => ?_)
      refine zv_idiv X dX10_findDoubles_197 gv2 ?_
      refine zv_istore_n (i := 3) (lv' := [(3, .int v2), (0, .ref 67), (1, .int a1), (2, .int a2)]) X dX10_findDoubles_198 rfl (Nat.le_of_ble_eq_true rfl) rfl ?_
      refine zv_iload_n X dX10_findDoubles_199 rfl rfl ?_
      refine zv_iconst (v := (5 : Int32)) X dX10_findDoubles_200 zic_5 ?_
      refine zb e (fun v3 gv3 e => ?_)
      refine zv_irem X dX10_findDoubles_201 gv3 ?_
      refine zv_istore (i := 4) (lv' := [(4, .int v3), (3, .int v2), (0, .ref 67), (1, .int a1), (2, .int a2)]) X dX10_findDoubles_202 (Nat.le_of_ble_eq_true rfl) rfl ?_
      refine zv_aload_n X dX10_findDoubles_204 rfl rfl ?_
      refine zv_getR X zf_RX10_118 znt_a zk_67 zb_67 zr_67_41 dX10_findDoubles_205 ?_
      refine zv_iload X dX10_findDoubles_208 rfl ?_
      refine zv_aload_n X dX10_findDoubles_210 rfl rfl ?_
      refine zv_getR X zf_RX10_111 znt_a zk_67 zb_67 zr_67_39 dX10_findDoubles_211 ?_
      refine zv_iload_n X dX10_findDoubles_214 rfl rfl ?_
      refine zb e (fun v4 gv4 e => ?_)
      refine zv_lald X zk_100 zl_100 zb_100 dX10_findDoubles_215 gv4 ?_
      refine zv_lconst (v := (0 : Int64)) X dX10_findDoubles_216 rfl ?_
      refine zv_lcmp_le (tgt := 246) (pc2 := 221) X dX10_findDoubles_217 rfl dX10_findDoubles_218 (by decide) rfl (fun c5 => ?_) (fun c5 => ?_)
      · replace e := zit e c5
        exact zv_pick X [2, 3, 4, 0] rfl (k_X10_findDoubles_L246 q hd X hk182 ih _ _ _ _ _ e)
      · replace e := zif e c5
        refine zv_aload_n X dX10_findDoubles_221 rfl rfl ?_
        refine zv_getR X zf_RX10_118 znt_a zk_67 zb_67 zr_67_41 dX10_findDoubles_222 ?_
        refine zv_iload_n X dX10_findDoubles_225 rfl rfl ?_
        refine zb e (fun v6 gv6 e => ?_)
        refine zv_iald X zk_102 zl_102 zb_102 dX10_findDoubles_226 gv6 ?_
        refine zv_aload_n X dX10_findDoubles_227 rfl rfl ?_
        refine zv_getR X zf_RX10_118 znt_a zk_67 zb_67 zr_67_41 dX10_findDoubles_228 ?_
        refine zv_iload X dX10_findDoubles_231 rfl ?_
        refine zb e (fun v7 gv7 e => ?_)
        refine zv_iald X zk_102 zl_102 zb_102 dX10_findDoubles_233 gv7 ?_
        refine zv_icmp_ge (tgt := 246) X dX10_findDoubles_234 (by decide) (fun c8 => ?_) (fun c8 => ?_)
        · replace e := zit e c8
          exact zv_pick X [2, 3, 4, 0] rfl (k_X10_findDoubles_L246 q hd X hk182 ih _ _ _ _ _ e)
        · replace e := zif e c8
          refine zv_aload_n X dX10_findDoubles_237 rfl rfl ?_
          refine zv_getR X zf_RX10_118 znt_a zk_67 zb_67 zr_67_41 dX10_findDoubles_238 ?_
          refine zv_iload_n X dX10_findDoubles_241 rfl rfl ?_
          refine zb e (fun v9 gv9 e => ?_)
          refine zv_iald X zk_102 zl_102 zb_102 dX10_findDoubles_242 gv9 ?_
          refine zv_goto (tgt := 253) X dX10_findDoubles_243 (by decide) ?_
          exact zv_pick X [2, 3, 4] rfl (k_X10_findDoubles_L253 q hd X hk182 ih _ _ _ _ _ e)
set_option maxRecDepth 100000 in
set_option maxHeartbeats 4000000 in
theorem k_X10_findDoubles_L182 {l : Launch} {D : va_G} {cy : Nat → ClassId} {S0 d : Nat} {J : zJ} (q : zHp) (hd : 2 ≤ d) (X : zOK l D cy S0 d RX10 cX10_findDoubles 7 (yX10_findDoubles.name == "<init>") 117 117 none (zRT 117 zRF none q) J) : ∀ (f : Nat) (a1 : Int32) (h : zHp), s_X10_findDoubles_L182 f a1 h = some q → J 182 [(0, .ref 67), (1, .int a1)] [] 117 zRF h := by
  intro f
  induction f with
  | zero => intro _ h e; exact absurd e (fun z => by cases z)
  | succ f ih =>
    intro a1 h e
    rw [s_X10_findDoubles_L182] at e
    refine zv_iload_n X dX10_findDoubles_182 rfl rfl ?_
    refine zv_iconst (v := (5 : Int32)) X dX10_findDoubles_183 zic_5 ?_
    refine zv_icmp_ge (tgt := 266) X dX10_findDoubles_184 (by decide) (fun c1 => ?_) (fun c1 => ?_)
    · replace e := zit e c1
      exact zv_retV X e rfl dX10_findDoubles_266
    · replace e := zif e c1
      refine zv_iconst (v := (0 : Int32)) X dX10_findDoubles_187 zic_0 ?_
      refine zv_istore_n (i := 2) (lv' := [(2, .int (0 : Int32)), (0, .ref 67), (1, .int a1)]) X dX10_findDoubles_188 rfl (Nat.le_of_ble_eq_true rfl) rfl ?_
      exact zv_pick X [1, 2, 0] rfl (k_X10_findDoubles_L189 q hd X ih _ _ _ _ e)
set_option maxRecDepth 100000 in
set_option maxHeartbeats 4000000 in
theorem k_X10_findDoubles_L50 {l : Launch} {D : va_G} {cy : Nat → ClassId} {S0 d : Nat} {J : zJ} (q : zHp) (hd : 2 ≤ d) (X : zOK l D cy S0 d RX10 cX10_findDoubles 7 (yX10_findDoubles.name == "<init>") 117 117 none (zRT 117 zRF none q) J) : ∀ (f : Nat) (a1 : Int32) (h : zHp), s_X10_findDoubles_L50 f a1 h = some q → J 50 [(0, .ref 67), (1, .int a1)] [] 117 zRF h := by
  intro f
  induction f with
  | zero => intro _ h e; exact absurd e (fun z => by cases z)
  | succ f ih =>
    intro a1 h e
    rw [s_X10_findDoubles_L50] at e
    refine zv_iload_n X dX10_findDoubles_50 rfl rfl ?_
    refine zv_aload_n X dX10_findDoubles_51 rfl rfl ?_
    refine zv_getI X zf_RX10_172 zk_67 zb_67 dX10_findDoubles_52 ?_
    refine zv_icmp_ge (tgt := 180) X dX10_findDoubles_55 (by decide) (fun c1 => ?_) (fun c1 => ?_)
    · replace e := zit e c1
      refine zv_iconst (v := (0 : Int32)) X dX10_findDoubles_180 zic_0 ?_
      refine zv_istore_n (i := 1) (lv' := [(1, .int (0 : Int32)), (0, .ref 67)]) X dX10_findDoubles_181 rfl (Nat.le_of_ble_eq_true rfl) rfl ?_
      exact zv_pick X [1, 0] rfl (k_X10_findDoubles_L182 q hd X _ _ _ e)
    · replace e := zif e c1
      refine zv_iconst (v := (0 : Int32)) X dX10_findDoubles_58 zic_0 ?_
      refine zv_istore_n (i := 2) (lv' := [(2, .int (0 : Int32)), (0, .ref 67), (1, .int a1)]) X dX10_findDoubles_59 rfl (Nat.le_of_ble_eq_true rfl) rfl ?_
      exact zv_pick X [1, 2, 0] rfl (k_X10_findDoubles_L60 q hd X ih _ _ _ _ e)
set_option maxRecDepth 100000 in
set_option maxHeartbeats 4000000 in
theorem k_X10_findDoubles_L23 {l : Launch} {D : va_G} {cy : Nat → ClassId} {S0 d : Nat} {J : zJ} (q : zHp) (hd : 2 ≤ d) (X : zOK l D cy S0 d RX10 cX10_findDoubles 7 (yX10_findDoubles.name == "<init>") 117 117 none (zRT 117 zRF none q) J) : ∀ (f : Nat) (a1 : Int32) (h : zHp), s_X10_findDoubles_L23 f a1 h = some q → J 23 [(0, .ref 67), (1, .int a1)] [] 117 zRF h := by
  intro f
  induction f with
  | zero => intro _ h e; exact absurd e (fun z => by cases z)
  | succ f ih =>
    intro a1 h e
    rw [s_X10_findDoubles_L23] at e
    refine zv_iload_n X dX10_findDoubles_23 rfl rfl ?_
    refine zv_iconst (v := (5 : Int32)) X dX10_findDoubles_24 zic_5 ?_
    refine zv_icmp_ge (tgt := 48) X dX10_findDoubles_25 (by decide) (fun c1 => ?_) (fun c1 => ?_)
    · replace e := zit e c1
      refine zv_iconst (v := (0 : Int32)) X dX10_findDoubles_48 zic_0 ?_
      refine zv_istore_n (i := 1) (lv' := [(1, .int (0 : Int32)), (0, .ref 67)]) X dX10_findDoubles_49 rfl (Nat.le_of_ble_eq_true rfl) rfl ?_
      exact zv_pick X [1, 0] rfl (k_X10_findDoubles_L50 q hd X _ _ _ e)
    · replace e := zif e c1
      refine zv_aload_n X dX10_findDoubles_28 rfl rfl ?_
      refine zv_getR X zf_RX10_115 znt_a zk_67 zb_67 zr_67_40 dX10_findDoubles_29 ?_
      refine zv_iload_n X dX10_findDoubles_32 rfl rfl ?_
      refine zv_lconst (v := (0 : Int64)) X dX10_findDoubles_33 rfl ?_
      refine zb e (fun h2 gh2 e => ?_)
      refine zv_last X zk_101 zl_101 zb_101 dX10_findDoubles_34 gh2 ?_
      refine zv_aload_n X dX10_findDoubles_35 rfl rfl ?_
      refine zv_getR X zf_RX10_118 znt_a zk_67 zb_67 zr_67_41 dX10_findDoubles_36 ?_
      refine zv_iload_n X dX10_findDoubles_39 rfl rfl ?_
      refine zv_iload_n X dX10_findDoubles_40 rfl rfl ?_
      refine zb e (fun h3 gh3 e => ?_)
      refine zv_iast X zk_102 zl_102 zb_102 dX10_findDoubles_41 gh3 ?_
      refine zv_iinc (k := 1) (v := a1 + (1 : Int32)) (lv' := [(1, .int (a1 + (1 : Int32))), (0, .ref 67)]) X dX10_findDoubles_42 rfl rfl (Nat.le_of_ble_eq_true rfl) rfl ?_
      refine zv_goto (tgt := 23) X dX10_findDoubles_45 (by decide) ?_
      exact zv_pick X [1, 0] rfl (ih _ _ e)
set_option maxRecDepth 100000 in
set_option maxHeartbeats 4000000 in
theorem k_X10_findDoubles_L2 {l : Launch} {D : va_G} {cy : Nat → ClassId} {S0 d : Nat} {J : zJ} (q : zHp) (hd : 2 ≤ d) (X : zOK l D cy S0 d RX10 cX10_findDoubles 7 (yX10_findDoubles.name == "<init>") 117 117 none (zRT 117 zRF none q) J) : ∀ (f : Nat) (a1 : Int32) (h : zHp), s_X10_findDoubles_L2 f a1 h = some q → J 2 [(0, .ref 67), (1, .int a1)] [] 117 zRF h := by
  intro f
  induction f with
  | zero => intro _ h e; exact absurd e (fun z => by cases z)
  | succ f ih =>
    intro a1 h e
    rw [s_X10_findDoubles_L2] at e
    refine zv_iload_n X dX10_findDoubles_2 rfl rfl ?_
    refine zv_bipush (v := (25 : Int32)) X dX10_findDoubles_3 zbp_25 ?_
    refine zv_icmp_ge (tgt := 21) X dX10_findDoubles_5 (by decide) (fun c1 => ?_) (fun c1 => ?_)
    · replace e := zit e c1
      refine zv_iconst (v := (0 : Int32)) X dX10_findDoubles_21 zic_0 ?_
      refine zv_istore_n (i := 1) (lv' := [(1, .int (0 : Int32)), (0, .ref 67)]) X dX10_findDoubles_22 rfl (Nat.le_of_ble_eq_true rfl) rfl ?_
      exact zv_pick X [1, 0] rfl (k_X10_findDoubles_L23 q hd X _ _ _ e)
    · replace e := zif e c1
      refine zv_aload_n X dX10_findDoubles_8 rfl rfl ?_
      refine zv_getR X zf_RX10_111 znt_a zk_67 zb_67 zr_67_39 dX10_findDoubles_9 ?_
      refine zv_iload_n X dX10_findDoubles_12 rfl rfl ?_
      refine zv_lconst (v := (0 : Int64)) X dX10_findDoubles_13 rfl ?_
      refine zb e (fun h2 gh2 e => ?_)
      refine zv_last X zk_100 zl_100 zb_100 dX10_findDoubles_14 gh2 ?_
      refine zv_iinc (k := 1) (v := a1 + (1 : Int32)) (lv' := [(1, .int (a1 + (1 : Int32))), (0, .ref 67)]) X dX10_findDoubles_15 rfl rfl (Nat.le_of_ble_eq_true rfl) rfl ?_
      refine zv_goto (tgt := 2) X dX10_findDoubles_18 (by decide) ?_
      exact zv_pick X [1, 0] rfl (ih _ _ e)
set_option maxRecDepth 100000 in
set_option maxHeartbeats 4000000 in
theorem k_X10_findDoubles {l : Launch} {D : va_G} {cy : Nat → ClassId} {S0 d : Nat} (hd : 2 ≤ d) {h : zHp} {q : zHp} (e : s_X10_findDoubles  h = some q) : zCT l D cy S0 d yX10_findDoubles cX10_findDoubles 7 none [.ref 67] 117 zRF h none 117 zRF q := by
  unfold s_X10_findDoubles at e
  refine zCT_of RX10 rfl zm_X10_findDoubles (Nat.le_refl _) (Nat.le_of_ble_eq_true rfl) (fun J X => ?_)
  show J 0 [(0, .ref 67)] [] 117 zRF h
  refine zv_iconst (v := (0 : Int32)) X dX10_findDoubles_0 zic_0 ?_
  refine zv_istore_n (i := 1) (lv' := [(1, .int (0 : Int32)), (0, .ref 67)]) X dX10_findDoubles_1 rfl (Nat.le_of_ble_eq_true rfl) rfl ?_
  exact zv_pick X [1, 0] rfl (k_X10_findDoubles_L2 q hd X _ _ _ e)
-- X10_isJoined
def s_X10_isJoined_L33 (k4 : Int32 → Int32 → Int32 → zHp → Option (Int32 × zHp)) (a1 : Int32) (a3 : Int32) (b0 : Int32) (h : zHp) : Option (Int32 × zHp) :=
  k4 a1 b0 (a3 + (1 : Int32)) h
def s_X10_isJoined_L28 (k4 : Int32 → Int32 → Int32 → zHp → Option (Int32 × zHp)) (a1 : Int32) (a3 : Int32) (h : zHp) : Option (Int32 × zHp) :=
  s_X10_isJoined_L33 k4 a1 a3 (1 : Int32) h
def s_X10_isJoined_L4 : Nat → Int32 → Int32 → Int32 → zHp → Option (Int32 × zHp)
  | 0, _, _, _, _ => none
  | f + 1, a1, a2, a3, h =>
  if (5 : Int32) ≤ a3 then
    (zbo a2).bind fun u2 =>
    some (a2, h)
  else
    if a2 = 0 then
      (zrj h 100 25 (((5 : Int32) * a1) + a3)).bind fun v4 =>
      if v4 ≤ (0 : Int64) then
        s_X10_isJoined_L33 (s_X10_isJoined_L4 f) a1 a3 (0 : Int32) h
      else
        s_X10_isJoined_L28 (s_X10_isJoined_L4 f) a1 a3 h
    else
      s_X10_isJoined_L28 (s_X10_isJoined_L4 f) a1 a3 h
def s_X10_isJoined (a1 : Int32) (h : zHp) : Option (Int32 × zHp) :=
  s_X10_isJoined_L4 zFU a1 (0 : Int32) (0 : Int32) h
set_option maxRecDepth 100000 in
set_option maxHeartbeats 4000000 in
theorem k_X10_isJoined_L33 {l : Launch} {D : va_G} {cy : Nat → ClassId} {S0 d : Nat} {J : zJ} (q : (Int32 × zHp)) (hd : 0 ≤ d) (X : zOK l D cy S0 d RX10 cX10_isJoined 4 (yX10_isJoined.name == "<init>") 117 117 (some .boolean) (zRT 117 zRF (some (.int q.1)) q.2) J) {k4 : Int32 → Int32 → Int32 → zHp → Option (Int32 × zHp)} (hk4 : ∀ (a1 : Int32) (a2 : Int32) (a3 : Int32) (h : zHp), k4 a1 a2 a3 h = some q → J 4 [(0, .ref 67), (1, .int a1), (2, .int a2), (3, .int a3)] [] 117 zRF h) : ∀ (a1 : Int32) (a3 : Int32) (b0 : Int32) (h : zHp), s_X10_isJoined_L33 k4 a1 a3 b0 h = some q → J 33 [(0, .ref 67), (1, .int a1), (3, .int a3)] [.int b0] 117 zRF h := by
  intro a1 a3 b0 h e
  unfold s_X10_isJoined_L33 at e
  refine zv_istore_n (i := 2) (lv' := [(2, .int b0), (0, .ref 67), (1, .int a1), (3, .int a3)]) X dX10_isJoined_33 rfl (Nat.le_of_ble_eq_true rfl) rfl ?_
  refine zv_iinc (k := 3) (v := a3 + (1 : Int32)) (lv' := [(3, .int (a3 + (1 : Int32))), (2, .int b0), (0, .ref 67), (1, .int a1)]) X dX10_isJoined_34 rfl rfl (Nat.le_of_ble_eq_true rfl) rfl ?_
  refine zv_goto (tgt := 4) X dX10_isJoined_37 (by decide) ?_
  exact zv_pick X [2, 3, 1, 0] rfl (hk4 _ _ _ _ e)
set_option maxRecDepth 100000 in
set_option maxHeartbeats 4000000 in
theorem k_X10_isJoined_L28 {l : Launch} {D : va_G} {cy : Nat → ClassId} {S0 d : Nat} {J : zJ} (q : (Int32 × zHp)) (hd : 0 ≤ d) (X : zOK l D cy S0 d RX10 cX10_isJoined 4 (yX10_isJoined.name == "<init>") 117 117 (some .boolean) (zRT 117 zRF (some (.int q.1)) q.2) J) {k4 : Int32 → Int32 → Int32 → zHp → Option (Int32 × zHp)} (hk4 : ∀ (a1 : Int32) (a2 : Int32) (a3 : Int32) (h : zHp), k4 a1 a2 a3 h = some q → J 4 [(0, .ref 67), (1, .int a1), (2, .int a2), (3, .int a3)] [] 117 zRF h) : ∀ (a1 : Int32) (a3 : Int32) (h : zHp), s_X10_isJoined_L28 k4 a1 a3 h = some q → J 28 [(0, .ref 67), (1, .int a1), (3, .int a3)] [] 117 zRF h := by
  intro a1 a3 h e
  unfold s_X10_isJoined_L28 at e
  refine zv_iconst (v := (1 : Int32)) X dX10_isJoined_28 zic_1 ?_
  refine zv_goto (tgt := 33) X dX10_isJoined_29 (by decide) ?_
  exact k_X10_isJoined_L33 q hd X hk4 _ _ _ _ e
set_option maxRecDepth 100000 in
set_option maxHeartbeats 4000000 in
theorem k_X10_isJoined_L4 {l : Launch} {D : va_G} {cy : Nat → ClassId} {S0 d : Nat} {J : zJ} (q : (Int32 × zHp)) (hd : 0 ≤ d) (X : zOK l D cy S0 d RX10 cX10_isJoined 4 (yX10_isJoined.name == "<init>") 117 117 (some .boolean) (zRT 117 zRF (some (.int q.1)) q.2) J) : ∀ (f : Nat) (a1 : Int32) (a2 : Int32) (a3 : Int32) (h : zHp), s_X10_isJoined_L4 f a1 a2 a3 h = some q → J 4 [(0, .ref 67), (1, .int a1), (2, .int a2), (3, .int a3)] [] 117 zRF h := by
  intro f
  induction f with
  | zero => intro _ _ _ h e; exact absurd e (fun z => by cases z)
  | succ f ih =>
    intro a1 a2 a3 h e
    rw [s_X10_isJoined_L4] at e
    refine zv_iload_n X dX10_isJoined_4 rfl rfl ?_
    refine zv_iconst (v := (5 : Int32)) X dX10_isJoined_5 zic_5 ?_
    refine zv_icmp_ge (tgt := 40) X dX10_isJoined_6 (by decide) (fun c1 => ?_) (fun c1 => ?_)
    · replace e := zit e c1
      refine zv_iload_n X dX10_isJoined_40 rfl rfl ?_
      refine zb e (fun u gu e => ?_)
      exact zv_retZ X e rfl (zbo_ok gu) dX10_isJoined_41
    · replace e := zif e c1
      refine zv_iload_n X dX10_isJoined_9 rfl rfl ?_
      refine zv_if_ne (tgt := 28) X dX10_isJoined_10 (by decide) (fun c3 => ?_) (fun c3 => ?_)
      · replace e := zif e c3
        exact zv_pick X [0, 1, 3] rfl (k_X10_isJoined_L28 q hd X ih _ _ _ e)
      · replace e := zit e c3
        refine zv_aload_n X dX10_isJoined_13 rfl rfl ?_
        refine zv_getR X zf_RX10_111 znt_a zk_67 zb_67 zr_67_39 dX10_isJoined_14 ?_
        refine zv_iconst (v := (5 : Int32)) X dX10_isJoined_17 zic_5 ?_
        refine zv_iload_n X dX10_isJoined_18 rfl rfl ?_
        refine zv_imul X dX10_isJoined_19 ?_
        refine zv_iload_n X dX10_isJoined_20 rfl rfl ?_
        refine zv_iadd X dX10_isJoined_21 ?_
        refine zb e (fun v4 gv4 e => ?_)
        refine zv_lald X zk_100 zl_100 zb_100 dX10_isJoined_22 gv4 ?_
        refine zv_lconst (v := (0 : Int64)) X dX10_isJoined_23 rfl ?_
        refine zv_lcmp_le (tgt := 32) (pc2 := 28) X dX10_isJoined_24 rfl dX10_isJoined_25 (by decide) rfl (fun c5 => ?_) (fun c5 => ?_)
        · replace e := zit e c5
          refine zv_iconst (v := (0 : Int32)) X dX10_isJoined_32 zic_0 ?_
          exact zv_pick X [0, 1, 3] rfl (k_X10_isJoined_L33 q hd X ih _ _ _ _ e)
        · replace e := zif e c5
          exact zv_pick X [0, 1, 3] rfl (k_X10_isJoined_L28 q hd X ih _ _ _ e)
set_option maxRecDepth 100000 in
set_option maxHeartbeats 4000000 in
theorem k_X10_isJoined {l : Launch} {D : va_G} {cy : Nat → ClassId} {S0 d : Nat} (hd : 0 ≤ d) {a1 : Int32} {h : zHp} {q : (Int32 × zHp)} (e : s_X10_isJoined a1 h = some q) : zCT l D cy S0 d yX10_isJoined cX10_isJoined 4 (some .boolean) [.ref 67, .int a1] 117 zRF h (some (.int q.1)) 117 zRF q.2 := by
  unfold s_X10_isJoined at e
  refine zCT_of RX10 rfl zm_X10_isJoined (Nat.le_refl _) (Nat.le_of_ble_eq_true rfl) (fun J X => ?_)
  show J 0 [(0, .ref 67), (1, .int a1)] [] 117 zRF h
  refine zv_iconst (v := (0 : Int32)) X dX10_isJoined_0 zic_0 ?_
  refine zv_istore_n (i := 2) (lv' := [(2, .int (0 : Int32)), (0, .ref 67), (1, .int a1)]) X dX10_isJoined_1 rfl (Nat.le_of_ble_eq_true rfl) rfl ?_
  refine zv_iconst (v := (0 : Int32)) X dX10_isJoined_2 zic_0 ?_
  refine zv_istore_n (i := 3) (lv' := [(3, .int (0 : Int32)), (2, .int (0 : Int32)), (0, .ref 67), (1, .int a1)]) X dX10_isJoined_3 rfl (Nat.le_of_ble_eq_true rfl) rfl ?_
  exact zv_pick X [2, 3, 1, 0] rfl (k_X10_isJoined_L4 q hd X _ _ _ _ _ e)
-- X10_entry
def s_X10_entry_L50 : Nat → Int32 → Int64 → Int32 → zHp → Option (Int64 × zHp)
  | 0, _, _, _, _ => none
  | f + 1, a1, a4, a6, h =>
  if (5 : Int32) ≤ a6 then
    some (a4, h)
  else
    (zri h 103 4 a1).bind fun v2 =>
    (zrj h 100 25 (((5 : Int32) * v2) + a6)).bind fun v3 =>
    (some (a4 + v3)).bind fun v4 =>
    s_X10_entry_L50 f a1 v4 (a6 + (1 : Int32)) h
def s_X10_entry (a1 : Int32) (a2 : Int32) (a3 : Int32) (h : zHp) : Option (Int64 × zHp) :=
  if a2 = a3 then
    (zri h 103 4 a1).bind fun v6 =>
    (zrj h 101 5 v6).bind fun v7 =>
    some (v7, h)
  else
    if a1 = a2 then
      s_X10_entry_L50 zFU a1 (0 : Int64) (0 : Int32) h
    else
      (zri h 103 4 a1).bind fun v3 =>
      (zri h 103 4 a2).bind fun v4 =>
      (zrj h 100 25 (((5 : Int32) * v3) + v4)).bind fun v5 =>
      some (-v5, h)
set_option maxRecDepth 100000 in
set_option maxHeartbeats 4000000 in
theorem k_X10_entry_L50 {l : Launch} {D : va_G} {cy : Nat → ClassId} {S0 d : Nat} {J : zJ} (q : (Int64 × zHp)) (hd : 0 ≤ d) (X : zOK l D cy S0 d RX10 cX10_entry 7 (yX10_entry.name == "<init>") 117 117 (some .long) (zRT 117 zRF (some (.long q.1)) q.2) J) : ∀ (f : Nat) (a1 : Int32) (a4 : Int64) (a6 : Int32) (h : zHp), s_X10_entry_L50 f a1 a4 a6 h = some q → J 50 [(0, .ref 67), (1, .int a1), (4, .long a4), (6, .int a6)] [] 117 zRF h := by
  intro f
  induction f with
  | zero => intro _ _ _ h e; exact absurd e (fun z => by cases z)
  | succ f ih =>
    intro a1 a4 a6 h e
    rw [s_X10_entry_L50] at e
    refine zv_iload X dX10_entry_50 rfl ?_
    refine zv_iconst (v := (5 : Int32)) X dX10_entry_52 zic_5 ?_
    refine zv_icmp_ge (tgt := 83) X dX10_entry_53 (by decide) (fun c1 => ?_) (fun c1 => ?_)
    · replace e := zit e c1
      refine zv_lload X dX10_entry_83 rfl ?_
      exact zv_retL X e rfl dX10_entry_85
    · replace e := zif e c1
      refine zv_lload X dX10_entry_56 rfl ?_
      refine zv_aload_n X dX10_entry_58 rfl rfl ?_
      refine zv_getR X zf_RX10_111 znt_a zk_67 zb_67 zr_67_39 dX10_entry_59 ?_
      refine zv_iconst (v := (5 : Int32)) X dX10_entry_62 zic_5 ?_
      refine zv_aload_n X dX10_entry_63 rfl rfl ?_
      refine zv_getR X zf_RX10_121 znt_a zk_67 zb_67 zr_67_42 dX10_entry_64 ?_
      refine zv_iload_n X dX10_entry_67 rfl rfl ?_
      refine zb e (fun v2 gv2 e => ?_)
      refine zv_iald X zk_103 zl_103 zb_103 dX10_entry_68 gv2 ?_
      refine zv_imul X dX10_entry_69 ?_
      refine zv_iload X dX10_entry_70 rfl ?_
      refine zv_iadd X dX10_entry_72 ?_
      refine zb e (fun v3 gv3 e => ?_)
      refine zv_lald X zk_100 zl_100 zb_100 dX10_entry_73 gv3 ?_
      refine zv_ladd X dX10_entry_74 ?_
      refine zb e (fun v4 gv4 e => ?_)
      refine zv_nmJ X gv4 ?_
      refine zv_lstore (i := 4) (lv' := [(4, .long v4), (0, .ref 67), (1, .int a1), (6, .int a6)]) X dX10_entry_75 (Nat.le_of_ble_eq_true rfl) rfl ?_
      refine zv_iinc (k := 3) (v := a6 + (1 : Int32)) (lv' := [(6, .int (a6 + (1 : Int32))), (4, .long v4), (0, .ref 67), (1, .int a1)]) X dX10_entry_77 rfl rfl (Nat.le_of_ble_eq_true rfl) rfl ?_
      refine zv_goto (tgt := 50) X dX10_entry_80 (by decide) ?_
      exact zv_pick X [2, 3, 1, 0] rfl (ih _ _ _ _ e)
set_option maxRecDepth 100000 in
set_option maxHeartbeats 4000000 in
theorem k_X10_entry {l : Launch} {D : va_G} {cy : Nat → ClassId} {S0 d : Nat} (hd : 0 ≤ d) {a1 : Int32} {a2 : Int32} {a3 : Int32} {h : zHp} {q : (Int64 × zHp)} (e : s_X10_entry a1 a2 a3 h = some q) : zCT l D cy S0 d yX10_entry cX10_entry 7 (some .long) [.ref 67, .int a1, .int a2, .int a3] 117 zRF h (some (.long q.1)) 117 zRF q.2 := by
  unfold s_X10_entry at e
  refine zCT_of RX10 rfl zm_X10_entry (Nat.le_refl _) (Nat.le_of_ble_eq_true rfl) (fun J X => ?_)
  show J 0 [(0, .ref 67), (1, .int a1), (2, .int a2), (3, .int a3)] [] 117 zRF h
  refine zv_iload_n X dX10_entry_0 rfl rfl ?_
  refine zv_iload_n X dX10_entry_1 rfl rfl ?_
  refine zv_icmp_ne (tgt := 17) X dX10_entry_2 (by decide) (fun c1 => ?_) (fun c1 => ?_)
  · replace e := zif e c1
    refine zv_iload_n X dX10_entry_17 rfl rfl ?_
    refine zv_iload_n X dX10_entry_18 rfl rfl ?_
    refine zv_icmp_eq (tgt := 44) X dX10_entry_19 (by decide) (fun c2 => ?_) (fun c2 => ?_)
    · replace e := zit e c2
      refine zv_lconst (v := (0 : Int64)) X dX10_entry_44 rfl ?_
      refine zv_lstore (i := 4) (lv' := [(4, .long (0 : Int64)), (0, .ref 67), (1, .int a1), (2, .int a2), (3, .int a3)]) X dX10_entry_45 (Nat.le_of_ble_eq_true rfl) rfl ?_
      refine zv_iconst (v := (0 : Int32)) X dX10_entry_47 zic_0 ?_
      refine zv_istore (i := 6) (lv' := [(6, .int (0 : Int32)), (4, .long (0 : Int64)), (0, .ref 67), (1, .int a1), (2, .int a2), (3, .int a3)]) X dX10_entry_48 (Nat.le_of_ble_eq_true rfl) rfl ?_
      exact zv_pick X [2, 3, 1, 0] rfl (k_X10_entry_L50 q hd X _ _ _ _ _ e)
    · replace e := zif e c2
      refine zv_aload_n X dX10_entry_22 rfl rfl ?_
      refine zv_getR X zf_RX10_111 znt_a zk_67 zb_67 zr_67_39 dX10_entry_23 ?_
      refine zv_iconst (v := (5 : Int32)) X dX10_entry_26 zic_5 ?_
      refine zv_aload_n X dX10_entry_27 rfl rfl ?_
      refine zv_getR X zf_RX10_121 znt_a zk_67 zb_67 zr_67_42 dX10_entry_28 ?_
      refine zv_iload_n X dX10_entry_31 rfl rfl ?_
      refine zb e (fun v3 gv3 e => ?_)
      refine zv_iald X zk_103 zl_103 zb_103 dX10_entry_32 gv3 ?_
      refine zv_imul X dX10_entry_33 ?_
      refine zv_aload_n X dX10_entry_34 rfl rfl ?_
      refine zv_getR X zf_RX10_121 znt_a zk_67 zb_67 zr_67_42 dX10_entry_35 ?_
      refine zv_iload_n X dX10_entry_38 rfl rfl ?_
      refine zb e (fun v4 gv4 e => ?_)
      refine zv_iald X zk_103 zl_103 zb_103 dX10_entry_39 gv4 ?_
      refine zv_iadd X dX10_entry_40 ?_
      refine zb e (fun v5 gv5 e => ?_)
      refine zv_lald X zk_100 zl_100 zb_100 dX10_entry_41 gv5 ?_
      refine zv_lneg X dX10_entry_42 ?_
      exact zv_retL X e rfl dX10_entry_43
  · replace e := zit e c1
    refine zv_aload_n X dX10_entry_5 rfl rfl ?_
    refine zv_getR X zf_RX10_115 znt_a zk_67 zb_67 zr_67_40 dX10_entry_6 ?_
    refine zv_aload_n X dX10_entry_9 rfl rfl ?_
    refine zv_getR X zf_RX10_121 znt_a zk_67 zb_67 zr_67_42 dX10_entry_10 ?_
    refine zv_iload_n X dX10_entry_13 rfl rfl ?_
    refine zb e (fun v6 gv6 e => ?_)
    refine zv_iald X zk_103 zl_103 zb_103 dX10_entry_14 gv6 ?_
    refine zb e (fun v7 gv7 e => ?_)
    refine zv_lald X zk_101 zl_101 zb_101 dX10_entry_15 gv7 ?_
    exact zv_retL X e rfl dX10_entry_16
-- X10_determinant
def s_X10_determinant_L160 (k33 : Int32 → Int64 → Int32 → Int32 → zHp → Option (Int64 × zHp)) (k77 : Int32 → Int64 → Int32 → Int32 → Int32 → Int64 → Int32 → zHp → Option (Int64 × zHp)) (a1 : Int32) (a2 : Int64) (a4 : Int32) (a5 : Int32) (a6 : Int32) (a9 : Int32) (b0 : Int64) (h : zHp) : Option (Int64 × zHp) :=
  (zri h 104 4 a9).bind fun v1 =>
  (s_X10_entry a9 v1 a1 h).bind fun q2 =>
  (some (b0 * q2.1)).bind fun v3 =>
  k77 a1 a2 a4 a5 a6 v3 (a9 + (1 : Int32)) q2.2
def s_X10_determinant_L77 (k33 : Int32 → Int64 → Int32 → Int32 → zHp → Option (Int64 × zHp)) : Nat → Int32 → Int64 → Int32 → Int32 → Int32 → Int64 → Int32 → zHp → Option (Int64 × zHp)
  | 0, _, _, _, _, _, _, _, _ => none
  | f + 1, a1, a2, a4, a5, a6, a7, a9, h =>
  if (h.1 67 43) ≤ a9 then
    (some (a2 + a7)).bind fun v2 =>
    k33 a1 v2 a4 (a5 + (1 : Int32)) h
  else
    (zrem a6 ((h.1 67 43) - a9)).bind fun v3 =>
    (some (a9 + v3)).bind fun v4 =>
    (zdiv a6 ((h.1 67 43) - a9)).bind fun v5 =>
    (zri h 104 4 a9).bind fun v6 =>
    (zri h 104 4 v4).bind fun v7 =>
    (zui h 104 4 a9 v7).bind fun h8 =>
    (zui h8 104 4 v4 v6).bind fun h9 =>
    if v4 = a9 then
      s_X10_determinant_L160 k33 (s_X10_determinant_L77 k33 f) a1 a2 a4 a5 v5 a9 a7 h9
    else
      s_X10_determinant_L160 k33 (s_X10_determinant_L77 k33 f) a1 a2 a4 a5 v5 a9 (-a7) h9
def s_X10_determinant_L47 (k33 : Int32 → Int64 → Int32 → Int32 → zHp → Option (Int64 × zHp)) : Nat → Int32 → Int64 → Int32 → Int32 → Int32 → Int32 → zHp → Option (Int64 × zHp)
  | 0, _, _, _, _, _, _, _ => none
  | f + 1, a1, a2, a4, a5, a6, a7, h =>
  if (h.1 67 43) ≤ a7 then
    s_X10_determinant_L77 k33 zFU a1 a2 a4 a5 a6 (1 : Int64) (0 : Int32) h
  else
    (zui h 104 4 a7 a7).bind fun h2 =>
    s_X10_determinant_L47 k33 f a1 a2 a4 a5 a6 (a7 + (1 : Int32)) h2
def s_X10_determinant_L33 : Nat → Int32 → Int64 → Int32 → Int32 → zHp → Option (Int64 × zHp)
  | 0, _, _, _, _, _ => none
  | f + 1, a1, a2, a4, a5, h =>
  if a4 ≤ a5 then
    some (a2, h)
  else
    s_X10_determinant_L47 (s_X10_determinant_L33 f) zFU a1 a2 a4 a5 a5 (0 : Int32) h
def s_X10_determinant_L8 : Nat → Int32 → Int64 → Int32 → Int32 → zHp → Option (Int64 × zHp)
  | 0, _, _, _, _, _ => none
  | f + 1, a1, a2, a4, a5, h =>
  if (h.1 67 43) < a5 then
    s_X10_determinant_L33 zFU a1 a2 a4 (0 : Int32) h
  else
    (some (a4 * a5)).bind fun v2 =>
    s_X10_determinant_L8 f a1 a2 v2 (a5 + (1 : Int32)) h
def s_X10_determinant (a1 : Int32) (h : zHp) : Option (Int64 × zHp) :=
  s_X10_determinant_L8 zFU a1 (0 : Int64) (1 : Int32) (2 : Int32) h
set_option maxRecDepth 100000 in
set_option maxHeartbeats 4000000 in
theorem k_X10_determinant_L160 {l : Launch} {D : va_G} {cy : Nat → ClassId} {S0 d : Nat} {J : zJ} (q : (Int64 × zHp)) (hd : 1 ≤ d) (X : zOK l D cy S0 d RX10 cX10_determinant 12 (yX10_determinant.name == "<init>") 117 117 (some .long) (zRT 117 zRF (some (.long q.1)) q.2) J) {k33 : Int32 → Int64 → Int32 → Int32 → zHp → Option (Int64 × zHp)} (hk33 : ∀ (a1 : Int32) (a2 : Int64) (a4 : Int32) (a5 : Int32) (h : zHp), k33 a1 a2 a4 a5 h = some q → J 33 [(0, .ref 67), (1, .int a1), (2, .long a2), (4, .int a4), (5, .int a5)] [] 117 zRF h) {k77 : Int32 → Int64 → Int32 → Int32 → Int32 → Int64 → Int32 → zHp → Option (Int64 × zHp)} (hk77 : ∀ (a1 : Int32) (a2 : Int64) (a4 : Int32) (a5 : Int32) (a6 : Int32) (a7 : Int64) (a9 : Int32) (h : zHp), k77 a1 a2 a4 a5 a6 a7 a9 h = some q → J 77 [(0, .ref 67), (1, .int a1), (2, .long a2), (4, .int a4), (5, .int a5), (6, .int a6), (7, .long a7), (9, .int a9)] [] 117 zRF h) : ∀ (a1 : Int32) (a2 : Int64) (a4 : Int32) (a5 : Int32) (a6 : Int32) (a9 : Int32) (b0 : Int64) (h : zHp), s_X10_determinant_L160 k33 k77 a1 a2 a4 a5 a6 a9 b0 h = some q → J 160 [(0, .ref 67), (1, .int a1), (2, .long a2), (4, .int a4), (5, .int a5), (6, .int a6), (9, .int a9)] [.long b0] 117 zRF h := by
  intro a1 a2 a4 a5 a6 a9 b0 h e
  unfold s_X10_determinant_L160 at e
  refine zv_aload_n X dX10_determinant_160 rfl rfl ?_
  refine zv_iload X dX10_determinant_161 rfl ?_
  refine zv_aload_n X dX10_determinant_163 rfl rfl ?_
  refine zv_getR X zf_RX10_124 znt_a zk_67 zb_67 zr_67_44 dX10_determinant_164 ?_
  refine zv_iload X dX10_determinant_167 rfl ?_
  refine zb e (fun v1 gv1 e => ?_)
  refine zv_iald X zk_104 zl_104 zb_104 dX10_determinant_169 gv1 ?_
  refine zv_iload_n X dX10_determinant_170 rfl rfl ?_
  refine zb e (fun q2 gq2 e => ?_)
  refine zv_callV (stk := [.int a1, .int v1, .int a9, .ref 67, .long b0]) (as := [.int a9, .int v1, .int a1]) (st := [.long b0]) (k := 67) X zl_RX10_260 zm_X10_entry (k_X10_entry (d := d - 1) (by omega) gq2) (by omega) zb_67 (by rw [zk_67]; rfl) rfl rfl (Nat.le_of_ble_eq_true rfl) (Nat.le_refl _) rfl dX10_determinant_171 ?_
  show J 174 [(0, .ref 67), (1, .int a1), (2, .long a2), (4, .int a4), (5, .int a5), (6, .int a6), (9, .int a9)] [.long q2.1, .long b0] 117 zRF q2.2
  refine zv_lmul X dX10_determinant_174 ?_
  refine zb e (fun v3 gv3 e => ?_)
  refine zv_nmJ X gv3 ?_
  refine zv_lstore (i := 7) (lv' := [(7, .long v3), (0, .ref 67), (1, .int a1), (2, .long a2), (4, .int a4), (5, .int a5), (6, .int a6), (9, .int a9)]) X dX10_determinant_175 (Nat.le_of_ble_eq_true rfl) rfl ?_
  refine zv_iinc (k := 7) (v := a9 + (1 : Int32)) (lv' := [(9, .int (a9 + (1 : Int32))), (7, .long v3), (0, .ref 67), (1, .int a1), (2, .long a2), (4, .int a4), (5, .int a5), (6, .int a6)]) X dX10_determinant_177 rfl rfl (Nat.le_of_ble_eq_true rfl) rfl ?_
  refine zv_goto (tgt := 77) X dX10_determinant_180 (by decide) ?_
  exact zv_pick X [2, 3, 4, 5, 6, 7, 1, 0] rfl (hk77 _ _ _ _ _ _ _ _ e)
set_option maxRecDepth 100000 in
set_option maxHeartbeats 4000000 in
theorem k_X10_determinant_L77 {l : Launch} {D : va_G} {cy : Nat → ClassId} {S0 d : Nat} {J : zJ} (q : (Int64 × zHp)) (hd : 1 ≤ d) (X : zOK l D cy S0 d RX10 cX10_determinant 12 (yX10_determinant.name == "<init>") 117 117 (some .long) (zRT 117 zRF (some (.long q.1)) q.2) J) {k33 : Int32 → Int64 → Int32 → Int32 → zHp → Option (Int64 × zHp)} (hk33 : ∀ (a1 : Int32) (a2 : Int64) (a4 : Int32) (a5 : Int32) (h : zHp), k33 a1 a2 a4 a5 h = some q → J 33 [(0, .ref 67), (1, .int a1), (2, .long a2), (4, .int a4), (5, .int a5)] [] 117 zRF h) : ∀ (f : Nat) (a1 : Int32) (a2 : Int64) (a4 : Int32) (a5 : Int32) (a6 : Int32) (a7 : Int64) (a9 : Int32) (h : zHp), s_X10_determinant_L77 k33 f a1 a2 a4 a5 a6 a7 a9 h = some q → J 77 [(0, .ref 67), (1, .int a1), (2, .long a2), (4, .int a4), (5, .int a5), (6, .int a6), (7, .long a7), (9, .int a9)] [] 117 zRF h := by
  intro f
  induction f with
  | zero => intro _ _ _ _ _ _ _ h e; exact absurd e (fun z => by cases z)
  | succ f ih =>
    intro a1 a2 a4 a5 a6 a7 a9 h e
    rw [s_X10_determinant_L77] at e
    refine zv_iload X dX10_determinant_77 rfl ?_
    refine zv_aload_n X dX10_determinant_79 rfl rfl ?_
    refine zv_getI X zf_RX10_257 zk_67 zb_67 dX10_determinant_80 ?_
    refine zv_icmp_ge (tgt := 183) X dX10_determinant_83 (by decide) (fun c1 => ?_) (fun c1 => ?_)
    · replace e := zit e c1
      refine zv_lload_n X dX10_determinant_183 rfl rfl ?_
      refine zv_lload X dX10_determinant_184 rfl ?_
      refine zv_ladd X dX10_determinant_186 ?_
      refine zb e (fun v2 gv2 e => ?_)
      refine zv_nmJ X gv2 ?_
      refine zv_lstore_n (i := 2) (lv' := [(2, .long v2), (0, .ref 67), (1, .int a1), (4, .int a4), (5, .int a5), (6, .int a6), (7, .long a7), (9, .int a9)]) X dX10_determinant_187 rfl (Nat.le_of_ble_eq_true rfl) rfl ?_
      refine zv_iinc (k := 4) (v := a5 + (1 : Int32)) (lv' := [(5, .int (a5 + (1 : Int32))), (2, .long v2), (0, .ref 67), (1, .int a1), (4, .int a4), (6, .int a6), (7, .long a7), (9, .int a9)]) X dX10_determinant_188 rfl rfl (Nat.le_of_ble_eq_true rfl) rfl ?_
      refine zv_goto (tgt := 33) X dX10_determinant_191 (by decide) ?_
      exact zv_pick X [2, 3, 1, 4, 0] rfl (hk33 _ _ _ _ _ e)
    · replace e := zif e c1
      refine zv_iload X dX10_determinant_86 rfl ?_
      refine zv_iload X dX10_determinant_88 rfl ?_
      refine zv_aload_n X dX10_determinant_90 rfl rfl ?_
      refine zv_getI X zf_RX10_257 zk_67 zb_67 dX10_determinant_91 ?_
      refine zv_iload X dX10_determinant_94 rfl ?_
      refine zv_isub X dX10_determinant_96 ?_
      refine zb e (fun v3 gv3 e => ?_)
      refine zv_irem X dX10_determinant_97 gv3 ?_
      refine zv_iadd X dX10_determinant_98 ?_
      refine zb e (fun v4 gv4 e => ?_)
      refine zv_nmI X gv4 ?_
      refine zv_istore (i := 10) (lv' := [(10, .int v4), (0, .ref 67), (1, .int a1), (2, .long a2), (4, .int a4), (5, .int a5), (6, .int a6), (7, .long a7), (9, .int a9)]) X dX10_determinant_99 (Nat.le_of_ble_eq_true rfl) rfl ?_
      refine zv_iload X dX10_determinant_101 rfl ?_
      refine zv_aload_n X dX10_determinant_103 rfl rfl ?_
      refine zv_getI X zf_RX10_257 zk_67 zb_67 dX10_determinant_104 ?_
      refine zv_iload X dX10_determinant_107 rfl ?_
      refine zv_isub X dX10_determinant_109 ?_
      refine zb e (fun v5 gv5 e => ?_)
      refine zv_idiv X dX10_determinant_110 gv5 ?_
      refine zv_istore (i := 6) (lv' := [(6, .int v5), (10, .int v4), (0, .ref 67), (1, .int a1), (2, .long a2), (4, .int a4), (5, .int a5), (7, .long a7), (9, .int a9)]) X dX10_determinant_111 (Nat.le_of_ble_eq_true rfl) rfl ?_
      refine zv_aload_n X dX10_determinant_113 rfl rfl ?_
      refine zv_getR X zf_RX10_124 znt_a zk_67 zb_67 zr_67_44 dX10_determinant_114 ?_
      refine zv_iload X dX10_determinant_117 rfl ?_
      refine zb e (fun v6 gv6 e => ?_)
      refine zv_iald X zk_104 zl_104 zb_104 dX10_determinant_119 gv6 ?_
      refine zv_istore (i := 11) (lv' := [(11, .int v6), (6, .int v5), (10, .int v4), (0, .ref 67), (1, .int a1), (2, .long a2), (4, .int a4), (5, .int a5), (7, .long a7), (9, .int a9)]) X dX10_determinant_120 (Nat.le_of_ble_eq_true rfl) rfl ?_
      refine zv_aload_n X dX10_determinant_122 rfl rfl ?_
      refine zv_getR X zf_RX10_124 znt_a zk_67 zb_67 zr_67_44 dX10_determinant_123 ?_
      refine zv_iload X dX10_determinant_126 rfl ?_
      refine zv_aload_n X dX10_determinant_128 rfl rfl ?_
      refine zv_getR X zf_RX10_124 znt_a zk_67 zb_67 zr_67_44 dX10_determinant_129 ?_
      refine zv_iload X dX10_determinant_132 rfl ?_
      refine zb e (fun v7 gv7 e => ?_)
      refine zv_iald X zk_104 zl_104 zb_104 dX10_determinant_134 gv7 ?_
      refine zb e (fun h8 gh8 e => ?_)
      refine zv_iast X zk_104 zl_104 zb_104 dX10_determinant_135 gh8 ?_
      refine zv_aload_n X dX10_determinant_136 rfl rfl ?_
      refine zv_getR X zf_RX10_124 znt_a zk_67 zb_67 zr_67_44 dX10_determinant_137 ?_
      refine zv_iload X dX10_determinant_140 rfl ?_
      refine zv_iload X dX10_determinant_142 rfl ?_
      refine zb e (fun h9 gh9 e => ?_)
      refine zv_iast X zk_104 zl_104 zb_104 dX10_determinant_144 gh9 ?_
      refine zv_iload X dX10_determinant_145 rfl ?_
      refine zv_iload X dX10_determinant_147 rfl ?_
      refine zv_icmp_ne (tgt := 157) X dX10_determinant_149 (by decide) (fun c10 => ?_) (fun c10 => ?_)
      · replace e := zif e c10
        refine zv_lload X dX10_determinant_157 rfl ?_
        refine zv_lneg X dX10_determinant_159 ?_
        exact zv_pick X [3, 4, 5, 6, 7, 1, 9] rfl (k_X10_determinant_L160 q hd X hk33 ih _ _ _ _ _ _ _ _ e)
      · replace e := zit e c10
        refine zv_lload X dX10_determinant_152 rfl ?_
        refine zv_goto (tgt := 160) X dX10_determinant_154 (by decide) ?_
        exact zv_pick X [3, 4, 5, 6, 7, 1, 9] rfl (k_X10_determinant_L160 q hd X hk33 ih _ _ _ _ _ _ _ _ e)
set_option maxRecDepth 100000 in
set_option maxHeartbeats 4000000 in
theorem k_X10_determinant_L47 {l : Launch} {D : va_G} {cy : Nat → ClassId} {S0 d : Nat} {J : zJ} (q : (Int64 × zHp)) (hd : 1 ≤ d) (X : zOK l D cy S0 d RX10 cX10_determinant 12 (yX10_determinant.name == "<init>") 117 117 (some .long) (zRT 117 zRF (some (.long q.1)) q.2) J) {k33 : Int32 → Int64 → Int32 → Int32 → zHp → Option (Int64 × zHp)} (hk33 : ∀ (a1 : Int32) (a2 : Int64) (a4 : Int32) (a5 : Int32) (h : zHp), k33 a1 a2 a4 a5 h = some q → J 33 [(0, .ref 67), (1, .int a1), (2, .long a2), (4, .int a4), (5, .int a5)] [] 117 zRF h) : ∀ (f : Nat) (a1 : Int32) (a2 : Int64) (a4 : Int32) (a5 : Int32) (a6 : Int32) (a7 : Int32) (h : zHp), s_X10_determinant_L47 k33 f a1 a2 a4 a5 a6 a7 h = some q → J 47 [(0, .ref 67), (1, .int a1), (2, .long a2), (4, .int a4), (5, .int a5), (6, .int a6), (7, .int a7)] [] 117 zRF h := by
  intro f
  induction f with
  | zero => intro _ _ _ _ _ _ h e; exact absurd e (fun z => by cases z)
  | succ f ih =>
    intro a1 a2 a4 a5 a6 a7 h e
    rw [s_X10_determinant_L47] at e
    refine zv_iload X dX10_determinant_47 rfl ?_
    refine zv_aload_n X dX10_determinant_49 rfl rfl ?_
    refine zv_getI X zf_RX10_257 zk_67 zb_67 dX10_determinant_50 ?_
    refine zv_icmp_ge (tgt := 71) X dX10_determinant_53 (by decide) (fun c1 => ?_) (fun c1 => ?_)
    · replace e := zit e c1
      refine zv_lconst (v := (1 : Int64)) X dX10_determinant_71 rfl ?_
      refine zv_lstore (i := 7) (lv' := [(7, .long (1 : Int64)), (0, .ref 67), (1, .int a1), (2, .long a2), (4, .int a4), (5, .int a5), (6, .int a6)]) X dX10_determinant_72 (Nat.le_of_ble_eq_true rfl) rfl ?_
      refine zv_iconst (v := (0 : Int32)) X dX10_determinant_74 zic_0 ?_
      refine zv_istore (i := 9) (lv' := [(9, .int (0 : Int32)), (7, .long (1 : Int64)), (0, .ref 67), (1, .int a1), (2, .long a2), (4, .int a4), (5, .int a5), (6, .int a6)]) X dX10_determinant_75 (Nat.le_of_ble_eq_true rfl) rfl ?_
      exact zv_pick X [2, 3, 4, 5, 6, 7, 1, 0] rfl (k_X10_determinant_L77 q hd X hk33 _ _ _ _ _ _ _ _ _ e)
    · replace e := zif e c1
      refine zv_aload_n X dX10_determinant_56 rfl rfl ?_
      refine zv_getR X zf_RX10_124 znt_a zk_67 zb_67 zr_67_44 dX10_determinant_57 ?_
      refine zv_iload X dX10_determinant_60 rfl ?_
      refine zv_iload X dX10_determinant_62 rfl ?_
      refine zb e (fun h2 gh2 e => ?_)
      refine zv_iast X zk_104 zl_104 zb_104 dX10_determinant_64 gh2 ?_
      refine zv_iinc (k := 6) (v := a7 + (1 : Int32)) (lv' := [(7, .int (a7 + (1 : Int32))), (0, .ref 67), (1, .int a1), (2, .long a2), (4, .int a4), (5, .int a5), (6, .int a6)]) X dX10_determinant_65 rfl rfl (Nat.le_of_ble_eq_true rfl) rfl ?_
      refine zv_goto (tgt := 47) X dX10_determinant_68 (by decide) ?_
      exact zv_pick X [1, 2, 3, 4, 5, 6, 0] rfl (ih _ _ _ _ _ _ _ e)
set_option maxRecDepth 100000 in
set_option maxHeartbeats 4000000 in
theorem k_X10_determinant_L33 {l : Launch} {D : va_G} {cy : Nat → ClassId} {S0 d : Nat} {J : zJ} (q : (Int64 × zHp)) (hd : 1 ≤ d) (X : zOK l D cy S0 d RX10 cX10_determinant 12 (yX10_determinant.name == "<init>") 117 117 (some .long) (zRT 117 zRF (some (.long q.1)) q.2) J) : ∀ (f : Nat) (a1 : Int32) (a2 : Int64) (a4 : Int32) (a5 : Int32) (h : zHp), s_X10_determinant_L33 f a1 a2 a4 a5 h = some q → J 33 [(0, .ref 67), (1, .int a1), (2, .long a2), (4, .int a4), (5, .int a5)] [] 117 zRF h := by
  intro f
  induction f with
  | zero => intro _ _ _ _ h e; exact absurd e (fun z => by cases z)
  | succ f ih =>
    intro a1 a2 a4 a5 h e
    rw [s_X10_determinant_L33] at e
    refine zv_iload X dX10_determinant_33 rfl ?_
    refine zv_iload X dX10_determinant_35 rfl ?_
    refine zv_icmp_ge (tgt := 194) X dX10_determinant_37 (by decide) (fun c1 => ?_) (fun c1 => ?_)
    · replace e := zit e c1
      refine zv_lload_n X dX10_determinant_194 rfl rfl ?_
      exact zv_retL X e rfl dX10_determinant_195
    · replace e := zif e c1
      refine zv_iload X dX10_determinant_40 rfl ?_
      refine zv_istore (i := 6) (lv' := [(6, .int a5), (0, .ref 67), (1, .int a1), (2, .long a2), (4, .int a4), (5, .int a5)]) X dX10_determinant_42 (Nat.le_of_ble_eq_true rfl) rfl ?_
      refine zv_iconst (v := (0 : Int32)) X dX10_determinant_44 zic_0 ?_
      refine zv_istore (i := 7) (lv' := [(7, .int (0 : Int32)), (6, .int a5), (0, .ref 67), (1, .int a1), (2, .long a2), (4, .int a4), (5, .int a5)]) X dX10_determinant_45 (Nat.le_of_ble_eq_true rfl) rfl ?_
      exact zv_pick X [2, 3, 4, 5, 6, 1, 0] rfl (k_X10_determinant_L47 q hd X ih _ _ _ _ _ _ _ _ e)
set_option maxRecDepth 100000 in
set_option maxHeartbeats 4000000 in
theorem k_X10_determinant_L8 {l : Launch} {D : va_G} {cy : Nat → ClassId} {S0 d : Nat} {J : zJ} (q : (Int64 × zHp)) (hd : 1 ≤ d) (X : zOK l D cy S0 d RX10 cX10_determinant 12 (yX10_determinant.name == "<init>") 117 117 (some .long) (zRT 117 zRF (some (.long q.1)) q.2) J) : ∀ (f : Nat) (a1 : Int32) (a2 : Int64) (a4 : Int32) (a5 : Int32) (h : zHp), s_X10_determinant_L8 f a1 a2 a4 a5 h = some q → J 8 [(0, .ref 67), (1, .int a1), (2, .long a2), (4, .int a4), (5, .int a5)] [] 117 zRF h := by
  intro f
  induction f with
  | zero => intro _ _ _ _ h e; exact absurd e (fun z => by cases z)
  | succ f ih =>
    intro a1 a2 a4 a5 h e
    rw [s_X10_determinant_L8] at e
    refine zv_iload X dX10_determinant_8 rfl ?_
    refine zv_aload_n X dX10_determinant_10 rfl rfl ?_
    refine zv_getI X zf_RX10_257 zk_67 zb_67 dX10_determinant_11 ?_
    refine zv_icmp_gt (tgt := 30) X dX10_determinant_14 (by decide) (fun c1 => ?_) (fun c1 => ?_)
    · replace e := zit e c1
      refine zv_iconst (v := (0 : Int32)) X dX10_determinant_30 zic_0 ?_
      refine zv_istore (i := 5) (lv' := [(5, .int (0 : Int32)), (0, .ref 67), (1, .int a1), (2, .long a2), (4, .int a4)]) X dX10_determinant_31 (Nat.le_of_ble_eq_true rfl) rfl ?_
      exact zv_pick X [1, 2, 3, 4, 0] rfl (k_X10_determinant_L33 q hd X _ _ _ _ _ _ e)
    · replace e := zif e c1
      refine zv_iload X dX10_determinant_17 rfl ?_
      refine zv_iload X dX10_determinant_19 rfl ?_
      refine zv_imul X dX10_determinant_21 ?_
      refine zb e (fun v2 gv2 e => ?_)
      refine zv_nmI X gv2 ?_
      refine zv_istore (i := 4) (lv' := [(4, .int v2), (0, .ref 67), (1, .int a1), (2, .long a2), (5, .int a5)]) X dX10_determinant_22 (Nat.le_of_ble_eq_true rfl) rfl ?_
      refine zv_iinc (k := 4) (v := a5 + (1 : Int32)) (lv' := [(5, .int (a5 + (1 : Int32))), (4, .int v2), (0, .ref 67), (1, .int a1), (2, .long a2)]) X dX10_determinant_24 rfl rfl (Nat.le_of_ble_eq_true rfl) rfl ?_
      refine zv_goto (tgt := 8) X dX10_determinant_27 (by decide) ?_
      exact zv_pick X [2, 3, 4, 1, 0] rfl (ih _ _ _ _ _ e)
set_option maxRecDepth 100000 in
set_option maxHeartbeats 4000000 in
theorem k_X10_determinant {l : Launch} {D : va_G} {cy : Nat → ClassId} {S0 d : Nat} (hd : 1 ≤ d) {a1 : Int32} {h : zHp} {q : (Int64 × zHp)} (e : s_X10_determinant a1 h = some q) : zCT l D cy S0 d yX10_determinant cX10_determinant 12 (some .long) [.ref 67, .int a1] 117 zRF h (some (.long q.1)) 117 zRF q.2 := by
  unfold s_X10_determinant at e
  refine zCT_of RX10 rfl zm_X10_determinant (Nat.le_refl _) (Nat.le_of_ble_eq_true rfl) (fun J X => ?_)
  show J 0 [(0, .ref 67), (1, .int a1)] [] 117 zRF h
  refine zv_lconst (v := (0 : Int64)) X dX10_determinant_0 rfl ?_
  refine zv_lstore_n (i := 2) (lv' := [(2, .long (0 : Int64)), (0, .ref 67), (1, .int a1)]) X dX10_determinant_1 rfl (Nat.le_of_ble_eq_true rfl) rfl ?_
  refine zv_iconst (v := (1 : Int32)) X dX10_determinant_2 zic_1 ?_
  refine zv_istore (i := 4) (lv' := [(4, .int (1 : Int32)), (2, .long (0 : Int64)), (0, .ref 67), (1, .int a1)]) X dX10_determinant_3 (Nat.le_of_ble_eq_true rfl) rfl ?_
  refine zv_iconst (v := (2 : Int32)) X dX10_determinant_5 zic_2 ?_
  refine zv_istore (i := 5) (lv' := [(5, .int (2 : Int32)), (4, .int (1 : Int32)), (2, .long (0 : Int64)), (0, .ref 67), (1, .int a1)]) X dX10_determinant_6 (Nat.le_of_ble_eq_true rfl) rfl ?_
  exact zv_pick X [3, 4, 2, 1, 0] rfl (k_X10_determinant_L8 q hd X _ _ _ _ _ _ e)
-- X10_divisor
def s_X10_divisor_L28 : Nat → Int64 → Int64 → zHp → Option (Int64 × zHp)
  | 0, _, _, _ => none
  | f + 1, a4, a6, h =>
  if a6 = (0 : Int64) then
    some (a4, h)
  else
    (zlrem a4 a6).bind fun v2 =>
    s_X10_divisor_L28 f a6 v2 h
def s_X10_divisor_L26 (a4 : Int64) (b0 : Int64) (h : zHp) : Option (Int64 × zHp) :=
  s_X10_divisor_L28 zFU a4 b0 h
def s_X10_divisor_L12 (a2 : Int64) (b0 : Int64) (h : zHp) : Option (Int64 × zHp) :=
  if (0 : Int64) ≤ a2 then
    s_X10_divisor_L26 b0 a2 h
  else
    s_X10_divisor_L26 b0 (-a2) h
def s_X10_divisor (a0 : Int64) (a2 : Int64) (h : zHp) : Option (Int64 × zHp) :=
  if (0 : Int64) ≤ a0 then
    s_X10_divisor_L12 a2 a0 h
  else
    s_X10_divisor_L12 a2 (-a0) h
set_option maxRecDepth 100000 in
set_option maxHeartbeats 4000000 in
theorem k_X10_divisor_L28 {l : Launch} {D : va_G} {cy : Nat → ClassId} {S0 d : Nat} {J : zJ} (q : (Int64 × zHp)) (hd : 0 ≤ d) (X : zOK l D cy S0 d RX10 cX10_divisor 10 (yX10_divisor.name == "<init>") 117 117 (some .long) (zRT 117 zRF (some (.long q.1)) q.2) J) : ∀ (f : Nat) (a4 : Int64) (a6 : Int64) (h : zHp), s_X10_divisor_L28 f a4 a6 h = some q → J 28 [(4, .long a4), (6, .long a6)] [] 117 zRF h := by
  intro f
  induction f with
  | zero => intro _ _ h e; exact absurd e (fun z => by cases z)
  | succ f ih =>
    intro a4 a6 h e
    rw [s_X10_divisor_L28] at e
    refine zv_lload X dX10_divisor_28 rfl ?_
    refine zv_lconst (v := (0 : Int64)) X dX10_divisor_30 rfl ?_
    refine zv_lcmp_eq (tgt := 53) (pc2 := 35) X dX10_divisor_31 rfl dX10_divisor_32 (by decide) rfl (fun c1 => ?_) (fun c1 => ?_)
    · replace e := zit e c1
      refine zv_lload X dX10_divisor_53 rfl ?_
      exact zv_retL X e rfl dX10_divisor_55
    · replace e := zif e c1
      refine zv_lload X dX10_divisor_35 rfl ?_
      refine zv_lload X dX10_divisor_37 rfl ?_
      refine zb e (fun v2 gv2 e => ?_)
      refine zv_lrem X dX10_divisor_39 gv2 ?_
      refine zv_lstore (i := 8) (lv' := [(8, .long v2), (4, .long a4), (6, .long a6)]) X dX10_divisor_40 (Nat.le_of_ble_eq_true rfl) rfl ?_
      refine zv_lload X dX10_divisor_42 rfl ?_
      refine zv_lstore (i := 4) (lv' := [(4, .long a6), (8, .long v2), (6, .long a6)]) X dX10_divisor_44 (Nat.le_of_ble_eq_true rfl) rfl ?_
      refine zv_lload X dX10_divisor_46 rfl ?_
      refine zv_lstore (i := 6) (lv' := [(6, .long v2), (4, .long a6), (8, .long v2)]) X dX10_divisor_48 (Nat.le_of_ble_eq_true rfl) rfl ?_
      refine zv_goto (tgt := 28) X dX10_divisor_50 (by decide) ?_
      exact zv_pick X [1, 0] rfl (ih _ _ _ e)
set_option maxRecDepth 100000 in
set_option maxHeartbeats 4000000 in
theorem k_X10_divisor_L26 {l : Launch} {D : va_G} {cy : Nat → ClassId} {S0 d : Nat} {J : zJ} (q : (Int64 × zHp)) (hd : 0 ≤ d) (X : zOK l D cy S0 d RX10 cX10_divisor 10 (yX10_divisor.name == "<init>") 117 117 (some .long) (zRT 117 zRF (some (.long q.1)) q.2) J) : ∀ (a4 : Int64) (b0 : Int64) (h : zHp), s_X10_divisor_L26 a4 b0 h = some q → J 26 [(4, .long a4)] [.long b0] 117 zRF h := by
  intro a4 b0 h e
  unfold s_X10_divisor_L26 at e
  refine zv_lstore (i := 6) (lv' := [(6, .long b0), (4, .long a4)]) X dX10_divisor_26 (Nat.le_of_ble_eq_true rfl) rfl ?_
  exact zv_pick X [1, 0] rfl (k_X10_divisor_L28 q hd X _ _ _ _ e)
set_option maxRecDepth 100000 in
set_option maxHeartbeats 4000000 in
theorem k_X10_divisor_L12 {l : Launch} {D : va_G} {cy : Nat → ClassId} {S0 d : Nat} {J : zJ} (q : (Int64 × zHp)) (hd : 0 ≤ d) (X : zOK l D cy S0 d RX10 cX10_divisor 10 (yX10_divisor.name == "<init>") 117 117 (some .long) (zRT 117 zRF (some (.long q.1)) q.2) J) : ∀ (a2 : Int64) (b0 : Int64) (h : zHp), s_X10_divisor_L12 a2 b0 h = some q → J 12 [(2, .long a2)] [.long b0] 117 zRF h := by
  intro a2 b0 h e
  unfold s_X10_divisor_L12 at e
  refine zv_lstore (i := 4) (lv' := [(4, .long b0), (2, .long a2)]) X dX10_divisor_12 (Nat.le_of_ble_eq_true rfl) rfl ?_
  refine zv_lload_n X dX10_divisor_14 rfl rfl ?_
  refine zv_lconst (v := (0 : Int64)) X dX10_divisor_15 rfl ?_
  refine zv_lcmp_ge (tgt := 25) (pc2 := 20) X dX10_divisor_16 rfl dX10_divisor_17 (by decide) rfl (fun c1 => ?_) (fun c1 => ?_)
  · replace e := zit e c1
    refine zv_lload_n X dX10_divisor_25 rfl rfl ?_
    exact zv_pick X [0] rfl (k_X10_divisor_L26 q hd X _ _ _ e)
  · replace e := zif e c1
    refine zv_lload_n X dX10_divisor_20 rfl rfl ?_
    refine zv_lneg X dX10_divisor_21 ?_
    refine zv_goto (tgt := 26) X dX10_divisor_22 (by decide) ?_
    exact zv_pick X [0] rfl (k_X10_divisor_L26 q hd X _ _ _ e)
set_option maxRecDepth 100000 in
set_option maxHeartbeats 4000000 in
theorem k_X10_divisor {l : Launch} {D : va_G} {cy : Nat → ClassId} {S0 d : Nat} (hd : 0 ≤ d) {a0 : Int64} {a2 : Int64} {h : zHp} {q : (Int64 × zHp)} (e : s_X10_divisor a0 a2 h = some q) : zCT l D cy S0 d yX10_divisor cX10_divisor 10 (some .long) [.long a0, .long a2] 117 zRF h (some (.long q.1)) 117 zRF q.2 := by
  unfold s_X10_divisor at e
  refine zCT_of RX10 rfl zm_X10_divisor (Nat.le_refl _) (Nat.le_of_ble_eq_true rfl) (fun J X => ?_)
  show J 0 [(0, .long a0), (2, .long a2)] [] 117 zRF h
  refine zv_lload_n X dX10_divisor_0 rfl rfl ?_
  refine zv_lconst (v := (0 : Int64)) X dX10_divisor_1 rfl ?_
  refine zv_lcmp_ge (tgt := 11) (pc2 := 6) X dX10_divisor_2 rfl dX10_divisor_3 (by decide) rfl (fun c1 => ?_) (fun c1 => ?_)
  · replace e := zit e c1
    refine zv_lload_n X dX10_divisor_11 rfl rfl ?_
    exact zv_pick X [1] rfl (k_X10_divisor_L12 q hd X _ _ _ e)
  · replace e := zif e c1
    refine zv_lload_n X dX10_divisor_6 rfl rfl ?_
    refine zv_lneg X dX10_divisor_7 ?_
    refine zv_goto (tgt := 12) X dX10_divisor_8 (by decide) ?_
    exact zv_pick X [1] rfl (k_X10_divisor_L12 q hd X _ _ _ e)
-- X10_findHabit
def s_X10_findHabit_L32  (h : zHp) : Option zHp :=
  some h
def s_X10_findHabit_L106 (k42 : Int32 → Int32 → Int32 → zHp → Option zHp) (a1 : Int32) (a2 : Int32) (a3 : Int32) (h : zHp) : Option zHp :=
  k42 a1 a2 (a3 + (1 : Int32)) h
def s_X10_findHabit_L85 (k42 : Int32 → Int32 → Int32 → zHp → Option zHp) (a1 : Int32) (a3 : Int32) (b0 : Int32) (h : zHp) : Option zHp :=
  (zui h 103 4 (h.1 67 43) a3).bind fun h1 =>
  (some ((h1.1 67 43) + (1 : Int32))).bind fun v2 =>
  (zpi h1 67 43 v2).bind fun h3 =>
  s_X10_findHabit_L106 k42 a1 b0 a3 h3
def s_X10_findHabit_L42 : Nat → Int32 → Int32 → Int32 → zHp → Option zHp
  | 0, _, _, _, _ => none
  | f + 1, a1, a2, a3, h =>
  if (5 : Int32) ≤ a3 then
    (s_X10_determinant a2 h).bind fun q2 =>
    (zpl q2.2 67 45 q2.1).bind fun h3 =>
    (s_X10_determinant (-1 : Int32) h3).bind fun q4 =>
    (zpl q4.2 67 46 q4.1).bind fun h5 =>
    (s_X10_divisor (h5.2 67 45) (h5.2 67 46) h5).bind fun q6 =>
    (zldiv (q6.2.2 67 45) q6.1).bind fun v7 =>
    (zpl q6.2 67 45 v7).bind fun h8 =>
    (zldiv (h8.2 67 46) q6.1).bind fun v9 =>
    (zpl h8 67 46 v9).bind fun h10 =>
    some h10
  else
    (zri h 102 5 a3).bind fun v11 =>
    (zri h 102 5 a1).bind fun v12 =>
    if v11 = v12 then
      (zri h 102 5 a3).bind fun v14 =>
      if v14 = a3 then
        s_X10_findHabit_L106 (s_X10_findHabit_L42 f) a1 a2 a3 h
      else
        if a3 = a1 then
          s_X10_findHabit_L85 (s_X10_findHabit_L42 f) a1 a3 (h.1 67 43) h
        else
          s_X10_findHabit_L85 (s_X10_findHabit_L42 f) a1 a3 a2 h
    else
      s_X10_findHabit_L106 (s_X10_findHabit_L42 f) a1 a2 a3 h
def s_X10_findHabit (a1 : Int32) (h : zHp) : Option zHp :=
  (s_X10_findDoubles h).bind fun q1 =>
  (zpl q1 67 45 (0 : Int64)).bind fun h2 =>
  (zpl h2 67 46 (1 : Int64)).bind fun h3 =>
  (s_X10_isJoined a1 h3).bind fun q4 =>
  if q4.1 = 0 then
    s_X10_findHabit_L32 q4.2
  else
    (zri q4.2 102 5 a1).bind fun v6 =>
    if v6 = a1 then
      s_X10_findHabit_L32 q4.2
    else
      (zpi q4.2 67 43 (0 : Int32)).bind fun h8 =>
      s_X10_findHabit_L42 zFU a1 (0 : Int32) (0 : Int32) h8
set_option maxRecDepth 100000 in
set_option maxHeartbeats 4000000 in
theorem k_X10_findHabit_L32 {l : Launch} {D : va_G} {cy : Nat → ClassId} {S0 d : Nat} {J : zJ} (q : zHp) (hd : 3 ≤ d) (X : zOK l D cy S0 d RX10 cX10_findHabit 5 (yX10_findHabit.name == "<init>") 117 117 none (zRT 117 zRF none q) J) : ∀  (h : zHp), s_X10_findHabit_L32  h = some q → J 32 [] [] 117 zRF h := by
  intro  h e
  unfold s_X10_findHabit_L32 at e
  exact zv_retV X e rfl dX10_findHabit_32
set_option maxRecDepth 100000 in
set_option maxHeartbeats 4000000 in
theorem k_X10_findHabit_L106 {l : Launch} {D : va_G} {cy : Nat → ClassId} {S0 d : Nat} {J : zJ} (q : zHp) (hd : 3 ≤ d) (X : zOK l D cy S0 d RX10 cX10_findHabit 5 (yX10_findHabit.name == "<init>") 117 117 none (zRT 117 zRF none q) J) {k42 : Int32 → Int32 → Int32 → zHp → Option zHp} (hk42 : ∀ (a1 : Int32) (a2 : Int32) (a3 : Int32) (h : zHp), k42 a1 a2 a3 h = some q → J 42 [(0, .ref 67), (1, .int a1), (2, .int a2), (3, .int a3)] [] 117 zRF h) : ∀ (a1 : Int32) (a2 : Int32) (a3 : Int32) (h : zHp), s_X10_findHabit_L106 k42 a1 a2 a3 h = some q → J 106 [(0, .ref 67), (1, .int a1), (2, .int a2), (3, .int a3)] [] 117 zRF h := by
  intro a1 a2 a3 h e
  unfold s_X10_findHabit_L106 at e
  refine zv_iinc (k := 3) (v := a3 + (1 : Int32)) (lv' := [(3, .int (a3 + (1 : Int32))), (0, .ref 67), (1, .int a1), (2, .int a2)]) X dX10_findHabit_106 rfl rfl (Nat.le_of_ble_eq_true rfl) rfl ?_
  refine zv_goto (tgt := 42) X dX10_findHabit_109 (by decide) ?_
  exact zv_pick X [1, 2, 3, 0] rfl (hk42 _ _ _ _ e)
set_option maxRecDepth 100000 in
set_option maxHeartbeats 4000000 in
theorem k_X10_findHabit_L85 {l : Launch} {D : va_G} {cy : Nat → ClassId} {S0 d : Nat} {J : zJ} (q : zHp) (hd : 3 ≤ d) (X : zOK l D cy S0 d RX10 cX10_findHabit 5 (yX10_findHabit.name == "<init>") 117 117 none (zRT 117 zRF none q) J) {k42 : Int32 → Int32 → Int32 → zHp → Option zHp} (hk42 : ∀ (a1 : Int32) (a2 : Int32) (a3 : Int32) (h : zHp), k42 a1 a2 a3 h = some q → J 42 [(0, .ref 67), (1, .int a1), (2, .int a2), (3, .int a3)] [] 117 zRF h) : ∀ (a1 : Int32) (a3 : Int32) (b0 : Int32) (h : zHp), s_X10_findHabit_L85 k42 a1 a3 b0 h = some q → J 85 [(0, .ref 67), (1, .int a1), (3, .int a3)] [.int b0] 117 zRF h := by
  intro a1 a3 b0 h e
  unfold s_X10_findHabit_L85 at e
  refine zv_istore_n (i := 2) (lv' := [(2, .int b0), (0, .ref 67), (1, .int a1), (3, .int a3)]) X dX10_findHabit_85 rfl (Nat.le_of_ble_eq_true rfl) rfl ?_
  refine zv_aload_n X dX10_findHabit_86 rfl rfl ?_
  refine zv_getR X zf_RX10_121 znt_a zk_67 zb_67 zr_67_42 dX10_findHabit_87 ?_
  refine zv_aload_n X dX10_findHabit_90 rfl rfl ?_
  refine zv_getI X zf_RX10_257 zk_67 zb_67 dX10_findHabit_91 ?_
  refine zv_iload_n X dX10_findHabit_94 rfl rfl ?_
  refine zb e (fun h1 gh1 e => ?_)
  refine zv_iast X zk_103 zl_103 zb_103 dX10_findHabit_95 gh1 ?_
  refine zv_aload_n X dX10_findHabit_96 rfl rfl ?_
  refine zv_dup_r X dX10_findHabit_97 ?_
  refine zv_getI X zf_RX10_257 zk_67 zb_67 dX10_findHabit_98 ?_
  refine zv_iconst (v := (1 : Int32)) X dX10_findHabit_101 zic_1 ?_
  refine zv_iadd X dX10_findHabit_102 ?_
  refine zb e (fun v2 gv2 e => ?_)
  refine zv_nmI X gv2 ?_
  refine zb e (fun h3 gh3 e => ?_)
  refine zv_putI' X zf_RX10_257 zk_67 zb_67 dX10_findHabit_103 gh3 ?_
  exact zv_pick X [1, 2, 0, 3] rfl (k_X10_findHabit_L106 q hd X hk42 _ _ _ _ e)
set_option maxRecDepth 100000 in
set_option maxHeartbeats 4000000 in
theorem k_X10_findHabit_L42 {l : Launch} {D : va_G} {cy : Nat → ClassId} {S0 d : Nat} {J : zJ} (q : zHp) (hd : 3 ≤ d) (X : zOK l D cy S0 d RX10 cX10_findHabit 5 (yX10_findHabit.name == "<init>") 117 117 none (zRT 117 zRF none q) J) : ∀ (f : Nat) (a1 : Int32) (a2 : Int32) (a3 : Int32) (h : zHp), s_X10_findHabit_L42 f a1 a2 a3 h = some q → J 42 [(0, .ref 67), (1, .int a1), (2, .int a2), (3, .int a3)] [] 117 zRF h := by
  intro f
  induction f with
  | zero => intro _ _ _ h e; exact absurd e (fun z => by cases z)
  | succ f ih =>
    intro a1 a2 a3 h e
    rw [s_X10_findHabit_L42] at e
    refine zv_iload_n X dX10_findHabit_42 rfl rfl ?_
    refine zv_iconst (v := (5 : Int32)) X dX10_findHabit_43 zic_5 ?_
    refine zv_icmp_ge (tgt := 112) X dX10_findHabit_44 (by decide) (fun c1 => ?_) (fun c1 => ?_)
    · replace e := zit e c1
      refine zv_aload_n X dX10_findHabit_112 rfl rfl ?_
      refine zv_aload_n X dX10_findHabit_113 rfl rfl ?_
      refine zv_iload_n X dX10_findHabit_114 rfl rfl ?_
      refine zb e (fun q2 gq2 e => ?_)
      refine zv_callV (stk := [.int a2, .ref 67, .ref 67]) (as := [.int a2]) (st := [.ref 67]) (k := 67) X zl_RX10_277 zm_X10_determinant (k_X10_determinant (d := d - 1) (by omega) gq2) (by omega) zb_67 (by rw [zk_67]; rfl) rfl rfl (Nat.le_of_ble_eq_true rfl) (Nat.le_refl _) rfl dX10_findHabit_115 ?_
      show J 118 [(0, .ref 67), (1, .int a1), (2, .int a2), (3, .int a3)] [.long q2.1, .ref 67] 117 zRF q2.2
      refine zb e (fun h3 gh3 e => ?_)
      refine zv_putL' X zf_RX10_267 zk_67 zb_67 dX10_findHabit_118 gh3 ?_
      refine zv_aload_n X dX10_findHabit_121 rfl rfl ?_
      refine zv_aload_n X dX10_findHabit_122 rfl rfl ?_
      refine zv_iconst (v := (-1 : Int32)) X dX10_findHabit_123 zic_m1 ?_
      refine zb e (fun q4 gq4 e => ?_)
      refine zv_callV (stk := [.int (-1 : Int32), .ref 67, .ref 67]) (as := [.int (-1 : Int32)]) (st := [.ref 67]) (k := 67) X zl_RX10_277 zm_X10_determinant (k_X10_determinant (d := d - 1) (by omega) gq4) (by omega) zb_67 (by rw [zk_67]; rfl) rfl rfl (Nat.le_of_ble_eq_true rfl) (Nat.le_refl _) rfl dX10_findHabit_124 ?_
      show J 127 [(0, .ref 67), (1, .int a1), (2, .int a2), (3, .int a3)] [.long q4.1, .ref 67] 117 zRF q4.2
      refine zb e (fun h5 gh5 e => ?_)
      refine zv_putL' X zf_RX10_271 zk_67 zb_67 dX10_findHabit_127 gh5 ?_
      refine zv_aload_n X dX10_findHabit_130 rfl rfl ?_
      refine zv_getL X zf_RX10_267 zk_67 zb_67 dX10_findHabit_131 ?_
      refine zv_aload_n X dX10_findHabit_134 rfl rfl ?_
      refine zv_getL X zf_RX10_271 zk_67 zb_67 dX10_findHabit_135 ?_
      refine zb e (fun q6 gq6 e => ?_)
      refine zv_callS (stk := [.long (h5.2 67 46), .long (h5.2 67 45)]) (as := [.long (h5.2 67 45), .long (h5.2 67 46)]) (st := []) X zl_RX10_281 zm_X10_divisor (k_X10_divisor (d := d - 1) (by omega) gq6) (by omega) rfl (Nat.le_of_ble_eq_true rfl) (Nat.le_refl _) rfl dX10_findHabit_138 ?_
      show J 141 [(0, .ref 67), (1, .int a1), (2, .int a2), (3, .int a3)] [.long q6.1] 117 zRF q6.2
      refine zv_lstore_n (i := 3) (lv' := [(3, .long q6.1), (0, .ref 67), (1, .int a1), (2, .int a2)]) X dX10_findHabit_141 rfl (Nat.le_of_ble_eq_true rfl) rfl ?_
      refine zv_aload_n X dX10_findHabit_142 rfl rfl ?_
      refine zv_dup_r X dX10_findHabit_143 ?_
      refine zv_getL X zf_RX10_267 zk_67 zb_67 dX10_findHabit_144 ?_
      refine zv_lload_n X dX10_findHabit_147 rfl rfl ?_
      refine zb e (fun v7 gv7 e => ?_)
      refine zv_ldiv X dX10_findHabit_148 gv7 ?_
      refine zb e (fun h8 gh8 e => ?_)
      refine zv_putL' X zf_RX10_267 zk_67 zb_67 dX10_findHabit_149 gh8 ?_
      refine zv_aload_n X dX10_findHabit_152 rfl rfl ?_
      refine zv_dup_r X dX10_findHabit_153 ?_
      refine zv_getL X zf_RX10_271 zk_67 zb_67 dX10_findHabit_154 ?_
      refine zv_lload_n X dX10_findHabit_157 rfl rfl ?_
      refine zb e (fun v9 gv9 e => ?_)
      refine zv_ldiv X dX10_findHabit_158 gv9 ?_
      refine zb e (fun h10 gh10 e => ?_)
      refine zv_putL' X zf_RX10_271 zk_67 zb_67 dX10_findHabit_159 gh10 ?_
      exact zv_retV X e rfl dX10_findHabit_162
    · replace e := zif e c1
      refine zv_aload_n X dX10_findHabit_47 rfl rfl ?_
      refine zv_getR X zf_RX10_118 znt_a zk_67 zb_67 zr_67_41 dX10_findHabit_48 ?_
      refine zv_iload_n X dX10_findHabit_51 rfl rfl ?_
      refine zb e (fun v11 gv11 e => ?_)
      refine zv_iald X zk_102 zl_102 zb_102 dX10_findHabit_52 gv11 ?_
      refine zv_aload_n X dX10_findHabit_53 rfl rfl ?_
      refine zv_getR X zf_RX10_118 znt_a zk_67 zb_67 zr_67_41 dX10_findHabit_54 ?_
      refine zv_iload_n X dX10_findHabit_57 rfl rfl ?_
      refine zb e (fun v12 gv12 e => ?_)
      refine zv_iald X zk_102 zl_102 zb_102 dX10_findHabit_58 gv12 ?_
      refine zv_icmp_ne (tgt := 106) X dX10_findHabit_59 (by decide) (fun c13 => ?_) (fun c13 => ?_)
      · replace e := zif e c13
        exact k_X10_findHabit_L106 q hd X ih _ _ _ _ e
      · replace e := zit e c13
        refine zv_aload_n X dX10_findHabit_62 rfl rfl ?_
        refine zv_getR X zf_RX10_118 znt_a zk_67 zb_67 zr_67_41 dX10_findHabit_63 ?_
        refine zv_iload_n X dX10_findHabit_66 rfl rfl ?_
        refine zb e (fun v14 gv14 e => ?_)
        refine zv_iald X zk_102 zl_102 zb_102 dX10_findHabit_67 gv14 ?_
        refine zv_iload_n X dX10_findHabit_68 rfl rfl ?_
        refine zv_icmp_eq (tgt := 106) X dX10_findHabit_69 (by decide) (fun c15 => ?_) (fun c15 => ?_)
        · replace e := zit e c15
          exact k_X10_findHabit_L106 q hd X ih _ _ _ _ e
        · replace e := zif e c15
          refine zv_iload_n X dX10_findHabit_72 rfl rfl ?_
          refine zv_iload_n X dX10_findHabit_73 rfl rfl ?_
          refine zv_icmp_ne (tgt := 84) X dX10_findHabit_74 (by decide) (fun c16 => ?_) (fun c16 => ?_)
          · replace e := zif e c16
            refine zv_iload_n X dX10_findHabit_84 rfl rfl ?_
            exact zv_pick X [0, 1, 3] rfl (k_X10_findHabit_L85 q hd X ih _ _ _ _ e)
          · replace e := zit e c16
            refine zv_aload_n X dX10_findHabit_77 rfl rfl ?_
            refine zv_getI X zf_RX10_257 zk_67 zb_67 dX10_findHabit_78 ?_
            refine zv_goto (tgt := 85) X dX10_findHabit_81 (by decide) ?_
            exact zv_pick X [0, 1, 3] rfl (k_X10_findHabit_L85 q hd X ih _ _ _ _ e)
set_option maxRecDepth 100000 in
set_option maxHeartbeats 4000000 in
theorem k_X10_findHabit {l : Launch} {D : va_G} {cy : Nat → ClassId} {S0 d : Nat} (hd : 3 ≤ d) {a1 : Int32} {h : zHp} {q : zHp} (e : s_X10_findHabit a1 h = some q) : zCT l D cy S0 d yX10_findHabit cX10_findHabit 5 none [.ref 67, .int a1] 117 zRF h none 117 zRF q := by
  unfold s_X10_findHabit at e
  refine zCT_of RX10 rfl zm_X10_findHabit (Nat.le_refl _) (Nat.le_of_ble_eq_true rfl) (fun J X => ?_)
  show J 0 [(0, .ref 67), (1, .int a1)] [] 117 zRF h
  refine zv_aload_n X dX10_findHabit_0 rfl rfl ?_
  refine zb e (fun q1 gq1 e => ?_)
  refine zv_callV (stk := [.ref 67]) (as := []) (st := []) (k := 67) X zl_RX10_264 zm_X10_findDoubles (k_X10_findDoubles (d := d - 1) (by omega) gq1) (by omega) zb_67 (by rw [zk_67]; rfl) rfl rfl (Nat.le_of_ble_eq_true rfl) (Nat.le_refl _) rfl dX10_findHabit_1 ?_
  show J 4 [(0, .ref 67), (1, .int a1)] [] 117 zRF q1
  refine zv_aload_n X dX10_findHabit_4 rfl rfl ?_
  refine zv_lconst (v := (0 : Int64)) X dX10_findHabit_5 rfl ?_
  refine zb e (fun h2 gh2 e => ?_)
  refine zv_putL' X zf_RX10_267 zk_67 zb_67 dX10_findHabit_6 gh2 ?_
  refine zv_aload_n X dX10_findHabit_9 rfl rfl ?_
  refine zv_lconst (v := (1 : Int64)) X dX10_findHabit_10 rfl ?_
  refine zb e (fun h3 gh3 e => ?_)
  refine zv_putL' X zf_RX10_271 zk_67 zb_67 dX10_findHabit_11 gh3 ?_
  refine zv_aload_n X dX10_findHabit_14 rfl rfl ?_
  refine zv_iload_n X dX10_findHabit_15 rfl rfl ?_
  refine zb e (fun q4 gq4 e => ?_)
  refine zv_callV (stk := [.int a1, .ref 67]) (as := [.int a1]) (st := []) (k := 67) X zl_RX10_274 zm_X10_isJoined (k_X10_isJoined (d := d - 1) (by omega) gq4) (by omega) zb_67 (by rw [zk_67]; rfl) rfl rfl (Nat.le_of_ble_eq_true rfl) (Nat.le_refl _) rfl dX10_findHabit_16 ?_
  show J 19 [(0, .ref 67), (1, .int a1)] [.int q4.1] 117 zRF q4.2
  refine zv_if_eq (tgt := 32) X dX10_findHabit_19 (by decide) (fun c5 => ?_) (fun c5 => ?_)
  · replace e := zit e c5
    exact zv_pick X [] rfl (k_X10_findHabit_L32 q hd X  _ e)
  · replace e := zif e c5
    refine zv_aload_n X dX10_findHabit_22 rfl rfl ?_
    refine zv_getR X zf_RX10_118 znt_a zk_67 zb_67 zr_67_41 dX10_findHabit_23 ?_
    refine zv_iload_n X dX10_findHabit_26 rfl rfl ?_
    refine zb e (fun v6 gv6 e => ?_)
    refine zv_iald X zk_102 zl_102 zb_102 dX10_findHabit_27 gv6 ?_
    refine zv_iload_n X dX10_findHabit_28 rfl rfl ?_
    refine zv_icmp_ne (tgt := 33) X dX10_findHabit_29 (by decide) (fun c7 => ?_) (fun c7 => ?_)
    · replace e := zif e c7
      refine zv_aload_n X dX10_findHabit_33 rfl rfl ?_
      refine zv_iconst (v := (0 : Int32)) X dX10_findHabit_34 zic_0 ?_
      refine zb e (fun h8 gh8 e => ?_)
      refine zv_putI' X zf_RX10_257 zk_67 zb_67 dX10_findHabit_35 gh8 ?_
      refine zv_iconst (v := (0 : Int32)) X dX10_findHabit_38 zic_0 ?_
      refine zv_istore_n (i := 2) (lv' := [(2, .int (0 : Int32)), (0, .ref 67), (1, .int a1)]) X dX10_findHabit_39 rfl (Nat.le_of_ble_eq_true rfl) rfl ?_
      refine zv_iconst (v := (0 : Int32)) X dX10_findHabit_40 zic_0 ?_
      refine zv_istore_n (i := 3) (lv' := [(3, .int (0 : Int32)), (2, .int (0 : Int32)), (0, .ref 67), (1, .int a1)]) X dX10_findHabit_41 rfl (Nat.le_of_ble_eq_true rfl) rfl ?_
      exact zv_pick X [2, 3, 1, 0] rfl (k_X10_findHabit_L42 q hd X _ _ _ _ _ e)
    · replace e := zit e c7
      exact zv_pick X [] rfl (k_X10_findHabit_L32 q hd X  _ e)

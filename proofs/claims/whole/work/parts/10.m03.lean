-- X5_scoreOn
def s_X5_scoreOn_L74 (k10 : Int32 → Int32 → Int32 → zHp → Option (Int32 × zHp)) (a1 : Int32) (a2 : Int32) (a3 : Int32) (h : zHp) : Option (Int32 × zHp) :=
  k10 a1 a2 (a3 + (1 : Int32)) h
def s_X5_scoreOn_L85 : Nat → Int32 → Int32 → zHp → Option (Int32 × zHp)
  | 0, _, _, _ => none
  | f + 1, a3, a4, h =>
  if (5 : Int32) ≤ a4 then
    some (a3, h)
  else
    (zri h 31 5 a4).bind fun v2 =>
    (s_X0_mostOf a4 h).bind fun q3 =>
    (s_J9_min_7cf53 v2 q3.1 q3.2).bind fun q4 =>
    (some (a3 + q4.1)).bind fun v5 =>
    s_X5_scoreOn_L85 f v5 (a4 + (1 : Int32)) q4.2
def s_X5_scoreOn_L10 : Nat → Int32 → Int32 → Int32 → zHp → Option (Int32 × zHp)
  | 0, _, _, _, _ => none
  | f + 1, a1, a2, a3, h =>
  (s_X0_size h).bind fun q1 =>
  if q1.1 ≤ a3 then
    s_X5_scoreOn_L85 zFU (0 : Int32) (0 : Int32) q1.2
  else
    (s_X5_timesFound a1 a3 q1.2).bind fun q3 =>
    if q3.1 ≤ 0 then
      s_X5_scoreOn_L74 (s_X5_scoreOn_L10 f) a1 a2 a3 q3.2
    else
      (s_X0_standingFor a3 a2 q3.2).bind fun q5 =>
      (s_X0_groupOf q5.1 q5.2).bind fun q6 =>
      (zri q6.2 31 5 q6.1).bind fun v7 =>
      (s_X0_pointsOf q5.1 q6.2).bind fun q8 =>
      (zui q8.2 31 5 q6.1 (v7 + (q8.1 * q3.1))).bind fun h9 =>
      s_X5_scoreOn_L74 (s_X5_scoreOn_L10 f) a1 a2 a3 h9
def s_X5_scoreOn (a1 : Int32) (a2 : Int32) (h : zHp) : Option (Int32 × zHp) :=
  (s_J7_fill_53178_31 (0 : Int32) h).bind fun q1 =>
  s_X5_scoreOn_L10 zFU a1 a2 (0 : Int32) q1
set_option maxRecDepth 100000 in
set_option maxHeartbeats 4000000 in
theorem k_X5_scoreOn_L74 {l : Launch} {D : va_G} {cy : Nat → ClassId} {S0 d : Nat} {J : zJ} (q : (Int32 × zHp)) (hd : 1 ≤ d) (X : zOK l D cy S0 d RX5 cX5_scoreOn 6 (yX5_scoreOn.name == "<init>") 117 117 (some .int) (zRT 117 zRF (some (.int q.1)) q.2) J) {k10 : Int32 → Int32 → Int32 → zHp → Option (Int32 × zHp)} (hk10 : ∀ (a1 : Int32) (a2 : Int32) (a3 : Int32) (h : zHp), k10 a1 a2 a3 h = some q → J 10 [(0, .ref 24), (1, .int a1), (2, .int a2), (3, .int a3)] [] 117 zRF h) : ∀ (a1 : Int32) (a2 : Int32) (a3 : Int32) (h : zHp), s_X5_scoreOn_L74 k10 a1 a2 a3 h = some q → J 74 [(0, .ref 24), (1, .int a1), (2, .int a2), (3, .int a3)] [] 117 zRF h := by
  intro a1 a2 a3 h e
  unfold s_X5_scoreOn_L74 at e
  refine zv_iinc (k := 3) (v := a3 + (1 : Int32)) (lv' := [(3, .int (a3 + (1 : Int32))), (0, .ref 24), (1, .int a1), (2, .int a2)]) X dX5_scoreOn_74 rfl rfl (Nat.le_of_ble_eq_true rfl) rfl ?_
  refine zv_goto (tgt := 10) X dX5_scoreOn_77 (by decide) ?_
  exact zv_pick X [1, 2, 3, 0] rfl (hk10 _ _ _ _ e)
set_option maxRecDepth 100000 in
set_option maxHeartbeats 4000000 in
theorem k_X5_scoreOn_L85 {l : Launch} {D : va_G} {cy : Nat → ClassId} {S0 d : Nat} {J : zJ} (q : (Int32 × zHp)) (hd : 1 ≤ d) (X : zOK l D cy S0 d RX5 cX5_scoreOn 6 (yX5_scoreOn.name == "<init>") 117 117 (some .int) (zRT 117 zRF (some (.int q.1)) q.2) J) : ∀ (f : Nat) (a3 : Int32) (a4 : Int32) (h : zHp), s_X5_scoreOn_L85 f a3 a4 h = some q → J 85 [(0, .ref 24), (3, .int a3), (4, .int a4)] [] 117 zRF h := by
  intro f
  induction f with
  | zero => intro _ _ h e; exact absurd e (fun z => by cases z)
  | succ f ih =>
    intro a3 a4 h e
    rw [s_X5_scoreOn_L85] at e
    refine zv_iload X dX5_scoreOn_85 rfl ?_
    refine zv_iconst (v := (5 : Int32)) X dX5_scoreOn_87 zic_5 ?_
    refine zv_icmp_ge (tgt := 119) X dX5_scoreOn_88 (by decide) (fun c1 => ?_) (fun c1 => ?_)
    · replace e := zit e c1
      refine zv_iload_n X dX5_scoreOn_119 rfl rfl ?_
      exact zv_retI X e rfl dX5_scoreOn_120
    · replace e := zif e c1
      refine zv_iload_n X dX5_scoreOn_91 rfl rfl ?_
      refine zv_aload_n X dX5_scoreOn_92 rfl rfl ?_
      refine zv_getR X zf_RX5_30 znt_a zk_24 zb_24 zr_24_7 dX5_scoreOn_93 ?_
      refine zv_iload X dX5_scoreOn_96 rfl ?_
      refine zb e (fun v2 gv2 e => ?_)
      refine zv_iald X zk_31 zl_31 zb_31 dX5_scoreOn_98 gv2 ?_
      refine zv_aload_n X dX5_scoreOn_99 rfl rfl ?_
      refine zv_getR X zf_RX5_40 znt_o zk_24 zb_24 zr_24_0 dX5_scoreOn_100 ?_
      refine zv_iload X dX5_scoreOn_103 rfl ?_
      refine zb e (fun q3 gq3 e => ?_)
      refine zv_callV (stk := [.int a4, .ref 6, .int v2, .int a3]) (as := [.int a4]) (st := [.int v2, .int a3]) (k := 6) X zl_RX5_72 zm_X0_mostOf (k_X0_mostOf (d := d - 1) (by omega) gq3) (by omega) zb_6 (by rw [zk_6]; rfl) rfl rfl (Nat.le_of_ble_eq_true rfl) (Nat.le_refl _) rfl dX5_scoreOn_105 ?_
      show J 108 [(0, .ref 24), (3, .int a3), (4, .int a4)] [.int q3.1, .int v2, .int a3] 117 zRF q3.2
      refine zb e (fun q4 gq4 e => ?_)
      refine zv_callS (stk := [.int q3.1, .int v2, .int a3]) (as := [.int v2, .int q3.1]) (st := [.int a3]) X zl_RX5_75 zm_J9_min_7cf53 (k_J9_min_7cf53 (d := d - 1) (by omega) gq4) (by omega) rfl (Nat.le_of_ble_eq_true rfl) (Nat.le_refl _) rfl dX5_scoreOn_108 ?_
      show J 111 [(0, .ref 24), (3, .int a3), (4, .int a4)] [.int q4.1, .int a3] 117 zRF q4.2
      refine zv_iadd X dX5_scoreOn_111 ?_
      refine zb e (fun v5 gv5 e => ?_)
      refine zv_nmI X gv5 ?_
      refine zv_istore_n (i := 3) (lv' := [(3, .int v5), (0, .ref 24), (4, .int a4)]) X dX5_scoreOn_112 rfl (Nat.le_of_ble_eq_true rfl) rfl ?_
      refine zv_iinc (k := 2) (v := a4 + (1 : Int32)) (lv' := [(4, .int (a4 + (1 : Int32))), (3, .int v5), (0, .ref 24)]) X dX5_scoreOn_113 rfl rfl (Nat.le_of_ble_eq_true rfl) rfl ?_
      refine zv_goto (tgt := 85) X dX5_scoreOn_116 (by decide) ?_
      exact zv_pick X [2, 1, 0] rfl (ih _ _ _ e)
set_option maxRecDepth 100000 in
set_option maxHeartbeats 4000000 in
theorem k_X5_scoreOn_L10 {l : Launch} {D : va_G} {cy : Nat → ClassId} {S0 d : Nat} {J : zJ} (q : (Int32 × zHp)) (hd : 1 ≤ d) (X : zOK l D cy S0 d RX5 cX5_scoreOn 6 (yX5_scoreOn.name == "<init>") 117 117 (some .int) (zRT 117 zRF (some (.int q.1)) q.2) J) : ∀ (f : Nat) (a1 : Int32) (a2 : Int32) (a3 : Int32) (h : zHp), s_X5_scoreOn_L10 f a1 a2 a3 h = some q → J 10 [(0, .ref 24), (1, .int a1), (2, .int a2), (3, .int a3)] [] 117 zRF h := by
  intro f
  induction f with
  | zero => intro _ _ _ h e; exact absurd e (fun z => by cases z)
  | succ f ih =>
    intro a1 a2 a3 h e
    rw [s_X5_scoreOn_L10] at e
    refine zv_iload_n X dX5_scoreOn_10 rfl rfl ?_
    refine zv_aload_n X dX5_scoreOn_11 rfl rfl ?_
    refine zv_getR X zf_RX5_40 znt_o zk_24 zb_24 zr_24_0 dX5_scoreOn_12 ?_
    refine zb e (fun q1 gq1 e => ?_)
    refine zv_callV (stk := [.ref 6, .int a3]) (as := []) (st := [.int a3]) (k := 6) X zl_RX5_54 zm_X0_size (k_X0_size (d := d - 1) (by omega) gq1) (by omega) zb_6 (by rw [zk_6]; rfl) rfl rfl (Nat.le_of_ble_eq_true rfl) (Nat.le_refl _) rfl dX5_scoreOn_15 ?_
    show J 18 [(0, .ref 24), (1, .int a1), (2, .int a2), (3, .int a3)] [.int q1.1, .int a3] 117 zRF q1.2
    refine zv_icmp_ge (tgt := 80) X dX5_scoreOn_18 (by decide) (fun c2 => ?_) (fun c2 => ?_)
    · replace e := zit e c2
      refine zv_iconst (v := (0 : Int32)) X dX5_scoreOn_80 zic_0 ?_
      refine zv_istore_n (i := 3) (lv' := [(3, .int (0 : Int32)), (0, .ref 24), (1, .int a1), (2, .int a2)]) X dX5_scoreOn_81 rfl (Nat.le_of_ble_eq_true rfl) rfl ?_
      refine zv_iconst (v := (0 : Int32)) X dX5_scoreOn_82 zic_0 ?_
      refine zv_istore (i := 4) (lv' := [(4, .int (0 : Int32)), (3, .int (0 : Int32)), (0, .ref 24), (1, .int a1), (2, .int a2)]) X dX5_scoreOn_83 (Nat.le_of_ble_eq_true rfl) rfl ?_
      exact zv_pick X [2, 1, 0] rfl (k_X5_scoreOn_L85 q hd X _ _ _ _ e)
    · replace e := zif e c2
      refine zv_aload_n X dX5_scoreOn_21 rfl rfl ?_
      refine zv_iload_n X dX5_scoreOn_22 rfl rfl ?_
      refine zv_iload_n X dX5_scoreOn_23 rfl rfl ?_
      refine zb e (fun q3 gq3 e => ?_)
      refine zv_callV (stk := [.int a3, .int a1, .ref 24]) (as := [.int a1, .int a3]) (st := []) (k := 24) X zl_RX5_59 zm_X5_timesFound (k_X5_timesFound (d := d - 1) (by omega) gq3) (by omega) zb_24 (by rw [zk_24]; rfl) rfl rfl (Nat.le_of_ble_eq_true rfl) (Nat.le_refl _) rfl dX5_scoreOn_24 ?_
      show J 27 [(0, .ref 24), (1, .int a1), (2, .int a2), (3, .int a3)] [.int q3.1] 117 zRF q3.2
      refine zv_istore (i := 4) (lv' := [(4, .int q3.1), (0, .ref 24), (1, .int a1), (2, .int a2), (3, .int a3)]) X dX5_scoreOn_27 (Nat.le_of_ble_eq_true rfl) rfl ?_
      refine zv_iload X dX5_scoreOn_29 rfl ?_
      refine zv_if_le (tgt := 74) X dX5_scoreOn_31 (by decide) (fun c4 => ?_) (fun c4 => ?_)
      · replace e := zit e c4
        exact zv_pick X [1, 2, 3, 4] rfl (k_X5_scoreOn_L74 q hd X ih _ _ _ _ e)
      · replace e := zif e c4
        refine zv_aload_n X dX5_scoreOn_34 rfl rfl ?_
        refine zv_getR X zf_RX5_40 znt_o zk_24 zb_24 zr_24_0 dX5_scoreOn_35 ?_
        refine zv_iload_n X dX5_scoreOn_38 rfl rfl ?_
        refine zv_iload_n X dX5_scoreOn_39 rfl rfl ?_
        refine zb e (fun q5 gq5 e => ?_)
        refine zv_callV (stk := [.int a2, .int a3, .ref 6]) (as := [.int a3, .int a2]) (st := []) (k := 6) X zl_RX5_62 zm_X0_standingFor (k_X0_standingFor (d := d - 1) (by omega) gq5) (by omega) zb_6 (by rw [zk_6]; rfl) rfl rfl (Nat.le_of_ble_eq_true rfl) (Nat.le_refl _) rfl dX5_scoreOn_40 ?_
        show J 43 [(4, .int q3.1), (0, .ref 24), (1, .int a1), (2, .int a2), (3, .int a3)] [.int q5.1] 117 zRF q5.2
        refine zv_istore (i := 5) (lv' := [(5, .int q5.1), (4, .int q3.1), (0, .ref 24), (1, .int a1), (2, .int a2), (3, .int a3)]) X dX5_scoreOn_43 (Nat.le_of_ble_eq_true rfl) rfl ?_
        refine zv_aload_n X dX5_scoreOn_45 rfl rfl ?_
        refine zv_getR X zf_RX5_30 znt_a zk_24 zb_24 zr_24_7 dX5_scoreOn_46 ?_
        refine zv_aload_n X dX5_scoreOn_49 rfl rfl ?_
        refine zv_getR X zf_RX5_40 znt_o zk_24 zb_24 zr_24_0 dX5_scoreOn_50 ?_
        refine zv_iload X dX5_scoreOn_53 rfl ?_
        refine zb e (fun q6 gq6 e => ?_)
        refine zv_callV (stk := [.int q5.1, .ref 6, .ref 31]) (as := [.int q5.1]) (st := [.ref 31]) (k := 6) X zl_RX5_65 zm_X0_groupOf (k_X0_groupOf (d := d - 1) (by omega) gq6) (by omega) zb_6 (by rw [zk_6]; rfl) rfl rfl (Nat.le_of_ble_eq_true rfl) (Nat.le_refl _) rfl dX5_scoreOn_55 ?_
        show J 58 [(5, .int q5.1), (4, .int q3.1), (0, .ref 24), (1, .int a1), (2, .int a2), (3, .int a3)] [.int q6.1, .ref 31] 117 zRF q6.2
        refine zv_dup2 X dX5_scoreOn_58 ?_
        refine zb e (fun v7 gv7 e => ?_)
        refine zv_iald X zk_31 zl_31 zb_31 dX5_scoreOn_59 gv7 ?_
        refine zv_aload_n X dX5_scoreOn_60 rfl rfl ?_
        refine zv_getR X zf_RX5_40 znt_o zk_24 zb_24 zr_24_0 dX5_scoreOn_61 ?_
        refine zv_iload X dX5_scoreOn_64 rfl ?_
        refine zb e (fun q8 gq8 e => ?_)
        refine zv_callV (stk := [.int q5.1, .ref 6, .int v7, .int q6.1, .ref 31]) (as := [.int q5.1]) (st := [.int v7, .int q6.1, .ref 31]) (k := 6) X zl_RX5_69 zm_X0_pointsOf (k_X0_pointsOf (d := d - 1) (by omega) gq8) (by omega) zb_6 (by rw [zk_6]; rfl) rfl rfl (Nat.le_of_ble_eq_true rfl) (Nat.le_refl _) rfl dX5_scoreOn_66 ?_
        show J 69 [(5, .int q5.1), (4, .int q3.1), (0, .ref 24), (1, .int a1), (2, .int a2), (3, .int a3)] [.int q8.1, .int v7, .int q6.1, .ref 31] 117 zRF q8.2
        refine zv_iload X dX5_scoreOn_69 rfl ?_
        refine zv_imul X dX5_scoreOn_71 ?_
        refine zv_iadd X dX5_scoreOn_72 ?_
        refine zb e (fun h9 gh9 e => ?_)
        refine zv_iast X zk_31 zl_31 zb_31 dX5_scoreOn_73 gh9 ?_
        exact zv_pick X [2, 3, 4, 5] rfl (k_X5_scoreOn_L74 q hd X ih _ _ _ _ e)
set_option maxRecDepth 100000 in
set_option maxHeartbeats 4000000 in
theorem k_X5_scoreOn {l : Launch} {D : va_G} {cy : Nat → ClassId} {S0 d : Nat} (hd : 1 ≤ d) {a1 : Int32} {a2 : Int32} {h : zHp} {q : (Int32 × zHp)} (e : s_X5_scoreOn a1 a2 h = some q) : zCT l D cy S0 d yX5_scoreOn cX5_scoreOn 6 (some .int) [.ref 24, .int a1, .int a2] 117 zRF h (some (.int q.1)) 117 zRF q.2 := by
  unfold s_X5_scoreOn at e
  refine zCT_of RX5 rfl zm_X5_scoreOn (Nat.le_refl _) (Nat.le_of_ble_eq_true rfl) (fun J X => ?_)
  show J 0 [(0, .ref 24), (1, .int a1), (2, .int a2)] [] 117 zRF h
  refine zv_aload_n X dX5_scoreOn_0 rfl rfl ?_
  refine zv_getR X zf_RX5_30 znt_a zk_24 zb_24 zr_24_7 dX5_scoreOn_1 ?_
  refine zv_iconst (v := (0 : Int32)) X dX5_scoreOn_4 zic_0 ?_
  refine zb e (fun q1 gq1 e => ?_)
  refine zv_callS (stk := [.int (0 : Int32), .ref 31]) (as := [.ref 31, .int (0 : Int32)]) (st := []) X zl_RX5_44 zm_J7_fill_53178 (k_J7_fill_53178_31 (d := d - 1) zb_31 (by omega) gq1) (by omega) rfl (Nat.le_of_ble_eq_true rfl) (Nat.le_refl _) rfl dX5_scoreOn_5 ?_
  show J 8 [(0, .ref 24), (1, .int a1), (2, .int a2)] [] 117 zRF q1
  refine zv_iconst (v := (0 : Int32)) X dX5_scoreOn_8 zic_0 ?_
  refine zv_istore_n (i := 3) (lv' := [(3, .int (0 : Int32)), (0, .ref 24), (1, .int a1), (2, .int a2)]) X dX5_scoreOn_9 rfl (Nat.le_of_ble_eq_true rfl) rfl ?_
  exact zv_pick X [1, 2, 3, 0] rfl (k_X5_scoreOn_L10 q hd X _ _ _ _ _ e)
-- X9_score
def s_X9_score (a1 : Int32) (a2 : Int32) (h : zHp) : Option (Int32 × zHp) :=
  (s_X5_has a1 h).bind fun q1 =>
  if q1.1 = 0 then
    (s_X9_refused (-1 : Int32) q1.2).bind fun q8 =>
    some (q8.1, q8.2)
  else
    if 0 ≤ a2 then
      if a2 ≤ (1500 : Int32) then
        (s_X5_scoreOn a1 a2 q1.2).bind fun q5 =>
        some (q5.1, q5.2)
      else
        (s_X9_refused (-6 : Int32) q1.2).bind fun q6 =>
        some (q6.1, q6.2)
    else
      (s_X9_refused (-4 : Int32) q1.2).bind fun q7 =>
      some (q7.1, q7.2)
set_option maxRecDepth 100000 in
set_option maxHeartbeats 4000000 in
theorem k_X9_score {l : Launch} {D : va_G} {cy : Nat → ClassId} {S0 d : Nat} (hd : 2 ≤ d) {a1 : Int32} {a2 : Int32} {h : zHp} {q : (Int32 × zHp)} (e : s_X9_score a1 a2 h = some q) : zCT l D cy S0 d yX9_score cX9_score 3 (some .int) [.ref 0, .int a1, .int a2] 117 zRF h (some (.int q.1)) 117 zRF q.2 := by
  unfold s_X9_score at e
  refine zCT_of RX9 rfl zm_X9_score (Nat.le_refl _) (Nat.le_of_ble_eq_true rfl) (fun J X => ?_)
  show J 0 [(0, .ref 0), (1, .int a1), (2, .int a2)] [] 117 zRF h
  refine zv_aload_n X dX9_score_0 rfl rfl ?_
  refine zv_getR X zf_RX9_45 znt_o zk_0 zb_0 zr_0_7 dX9_score_1 ?_
  refine zv_iload_n X dX9_score_4 rfl rfl ?_
  refine zb e (fun q1 gq1 e => ?_)
  refine zv_callV (stk := [.int a1, .ref 24]) (as := [.int a1]) (st := []) (k := 24) X zl_RX9_168 zm_X5_has (k_X5_has (d := d - 1) (by omega) gq1) (by omega) zb_24 (by rw [zk_24]; rfl) rfl rfl (Nat.le_of_ble_eq_true rfl) (Nat.le_refl _) rfl dX9_score_5 ?_
  show J 8 [(0, .ref 0), (1, .int a1), (2, .int a2)] [.int q1.1] 117 zRF q1.2
  refine zv_if_ne (tgt := 17) X dX9_score_8 (by decide) (fun c2 => ?_) (fun c2 => ?_)
  · replace e := zif e c2
    refine zv_iload_n X dX9_score_17 rfl rfl ?_
    refine zv_if_ge (tgt := 28) X dX9_score_18 (by decide) (fun c3 => ?_) (fun c3 => ?_)
    · replace e := zit e c3
      refine zv_iload_n X dX9_score_28 rfl rfl ?_
      refine zv_sipush (v := (1500 : Int32)) X dX9_score_29 zsp_1500 ?_
      refine zv_icmp_le (tgt := 42) X dX9_score_32 (by decide) (fun c4 => ?_) (fun c4 => ?_)
      · replace e := zit e c4
        refine zv_aload_n X dX9_score_42 rfl rfl ?_
        refine zv_getR X zf_RX9_45 znt_o zk_0 zb_0 zr_0_7 dX9_score_43 ?_
        refine zv_iload_n X dX9_score_46 rfl rfl ?_
        refine zv_iload_n X dX9_score_47 rfl rfl ?_
        refine zb e (fun q5 gq5 e => ?_)
        refine zv_callV (stk := [.int a2, .int a1, .ref 24]) (as := [.int a1, .int a2]) (st := []) (k := 24) X zl_RX9_188 zm_X5_scoreOn (k_X5_scoreOn (d := d - 1) (by omega) gq5) (by omega) zb_24 (by rw [zk_24]; rfl) rfl rfl (Nat.le_of_ble_eq_true rfl) (Nat.le_refl _) rfl dX9_score_48 ?_
        show J 51 [(0, .ref 0), (1, .int a1), (2, .int a2)] [.int q5.1] 117 zRF q5.2
        exact zv_retI X e rfl dX9_score_51
      · replace e := zif e c4
        refine zv_aload_n X dX9_score_35 rfl rfl ?_
        refine zv_bipush (v := (-6 : Int32)) X dX9_score_36 zbp_m6 ?_
        refine zb e (fun q6 gq6 e => ?_)
        refine zv_callV (stk := [.int (-6 : Int32), .ref 0]) (as := [.int (-6 : Int32)]) (st := []) (k := 0) X zl_RX9_108 zm_X9_refused (k_X9_refused (d := d - 1) (by omega) gq6) (by omega) zb_0 (by rw [zk_0]; rfl) rfl rfl (Nat.le_of_ble_eq_true rfl) (Nat.le_refl _) rfl dX9_score_38 ?_
        show J 41 [(0, .ref 0), (1, .int a1), (2, .int a2)] [.int q6.1] 117 zRF q6.2
        exact zv_retI X e rfl dX9_score_41
    · replace e := zif e c3
      refine zv_aload_n X dX9_score_21 rfl rfl ?_
      refine zv_bipush (v := (-4 : Int32)) X dX9_score_22 zbp_m4 ?_
      refine zb e (fun q7 gq7 e => ?_)
      refine zv_callV (stk := [.int (-4 : Int32), .ref 0]) (as := [.int (-4 : Int32)]) (st := []) (k := 0) X zl_RX9_108 zm_X9_refused (k_X9_refused (d := d - 1) (by omega) gq7) (by omega) zb_0 (by rw [zk_0]; rfl) rfl rfl (Nat.le_of_ble_eq_true rfl) (Nat.le_refl _) rfl dX9_score_24 ?_
      show J 27 [(0, .ref 0), (1, .int a1), (2, .int a2)] [.int q7.1] 117 zRF q7.2
      exact zv_retI X e rfl dX9_score_27
  · replace e := zit e c2
    refine zv_aload_n X dX9_score_11 rfl rfl ?_
    refine zv_iconst (v := (-1 : Int32)) X dX9_score_12 zic_m1 ?_
    refine zb e (fun q8 gq8 e => ?_)
    refine zv_callV (stk := [.int (-1 : Int32), .ref 0]) (as := [.int (-1 : Int32)]) (st := []) (k := 0) X zl_RX9_108 zm_X9_refused (k_X9_refused (d := d - 1) (by omega) gq8) (by omega) zb_0 (by rw [zk_0]; rfl) rfl rfl (Nat.le_of_ble_eq_true rfl) (Nat.le_refl _) rfl dX9_score_13 ?_
    show J 16 [(0, .ref 0), (1, .int a1), (2, .int a2)] [.int q8.1] 117 zRF q8.2
    exact zv_retI X e rfl dX9_score_16
-- X10_scoreOf
def s_X10_scoreOf_L124 (k83 : Int32 → Int32 → zHp → Option (Int32 × zHp)) (a4 : Int32) (b0 : Int32) (b1 : Int32) (h : zHp) : Option (Int32 × zHp) :=
  (some (b0 + b1)).bind fun v1 =>
  k83 v1 (a4 + (1 : Int32)) h
def s_X10_scoreOf_L83 : Nat → Int32 → Int32 → zHp → Option (Int32 × zHp)
  | 0, _, _, _ => none
  | f + 1, a3, a4, h =>
  if (5 : Int32) ≤ a4 then
    some (a3, h)
  else
    (zri h 89 5 a4).bind fun v2 =>
    (zri h 73 5 a4).bind fun v3 =>
    if v3 ≤ v2 then
      (zri h 73 5 a4).bind fun v5 =>
      s_X10_scoreOf_L124 (s_X10_scoreOf_L83 f) a4 a3 v5 h
    else
      (zri h 89 5 a4).bind fun v6 =>
      s_X10_scoreOf_L124 (s_X10_scoreOf_L83 f) a4 a3 v6 h
def s_X10_scoreOf_L22 : Nat → Int32 → Int32 → Int32 → zHp → Option (Int32 × zHp)
  | 0, _, _, _, _ => none
  | f + 1, a1, a2, a3, h =>
  if (h.1 67 1) ≤ a3 then
    s_X10_scoreOf_L83 zFU (0 : Int32) (0 : Int32) h
  else
    (s_X10_standsFor a3 a2 h).bind fun q2 =>
    (zri q2.2 68 40 q2.1).bind fun v3 =>
    (zri q2.2 89 5 v3).bind fun v4 =>
    (zri q2.2 87 3200 (((40 : Int32) * a1) + a3)).bind fun v5 =>
    (zri q2.2 69 40 q2.1).bind fun v6 =>
    (zui q2.2 89 5 v3 (v4 + (v5 * v6))).bind fun h7 =>
    s_X10_scoreOf_L22 f a1 a2 (a3 + (1 : Int32)) h7
def s_X10_scoreOf_L2 : Nat → Int32 → Int32 → Int32 → zHp → Option (Int32 × zHp)
  | 0, _, _, _, _ => none
  | f + 1, a1, a2, a3, h =>
  if (5 : Int32) ≤ a3 then
    s_X10_scoreOf_L22 zFU a1 a2 (0 : Int32) h
  else
    (zui h 89 5 a3 (0 : Int32)).bind fun h2 =>
    s_X10_scoreOf_L2 f a1 a2 (a3 + (1 : Int32)) h2
def s_X10_scoreOf (a1 : Int32) (a2 : Int32) (h : zHp) : Option (Int32 × zHp) :=
  s_X10_scoreOf_L2 zFU a1 a2 (0 : Int32) h
set_option maxRecDepth 100000 in
set_option maxHeartbeats 4000000 in
theorem k_X10_scoreOf_L124 {l : Launch} {D : va_G} {cy : Nat → ClassId} {S0 d : Nat} {J : zJ} (q : (Int32 × zHp)) (hd : 1 ≤ d) (X : zOK l D cy S0 d RX10 cX10_scoreOf 5 (yX10_scoreOf.name == "<init>") 117 117 (some .int) (zRT 117 zRF (some (.int q.1)) q.2) J) {k83 : Int32 → Int32 → zHp → Option (Int32 × zHp)} (hk83 : ∀ (a3 : Int32) (a4 : Int32) (h : zHp), k83 a3 a4 h = some q → J 83 [(0, .ref 67), (3, .int a3), (4, .int a4)] [] 117 zRF h) : ∀ (a4 : Int32) (b0 : Int32) (b1 : Int32) (h : zHp), s_X10_scoreOf_L124 k83 a4 b0 b1 h = some q → J 124 [(0, .ref 67), (4, .int a4)] [.int b1, .int b0] 117 zRF h := by
  intro a4 b0 b1 h e
  unfold s_X10_scoreOf_L124 at e
  refine zv_iadd X dX10_scoreOf_124 ?_
  refine zb e (fun v1 gv1 e => ?_)
  refine zv_nmI X gv1 ?_
  refine zv_istore_n (i := 3) (lv' := [(3, .int v1), (0, .ref 67), (4, .int a4)]) X dX10_scoreOf_125 rfl (Nat.le_of_ble_eq_true rfl) rfl ?_
  refine zv_iinc (k := 2) (v := a4 + (1 : Int32)) (lv' := [(4, .int (a4 + (1 : Int32))), (3, .int v1), (0, .ref 67)]) X dX10_scoreOf_126 rfl rfl (Nat.le_of_ble_eq_true rfl) rfl ?_
  refine zv_goto (tgt := 83) X dX10_scoreOf_129 (by decide) ?_
  exact zv_pick X [2, 1, 0] rfl (hk83 _ _ _ e)
set_option maxRecDepth 100000 in
set_option maxHeartbeats 4000000 in
theorem k_X10_scoreOf_L83 {l : Launch} {D : va_G} {cy : Nat → ClassId} {S0 d : Nat} {J : zJ} (q : (Int32 × zHp)) (hd : 1 ≤ d) (X : zOK l D cy S0 d RX10 cX10_scoreOf 5 (yX10_scoreOf.name == "<init>") 117 117 (some .int) (zRT 117 zRF (some (.int q.1)) q.2) J) : ∀ (f : Nat) (a3 : Int32) (a4 : Int32) (h : zHp), s_X10_scoreOf_L83 f a3 a4 h = some q → J 83 [(0, .ref 67), (3, .int a3), (4, .int a4)] [] 117 zRF h := by
  intro f
  induction f with
  | zero => intro _ _ h e; exact absurd e (fun z => by cases z)
  | succ f ih =>
    intro a3 a4 h e
    rw [s_X10_scoreOf_L83] at e
    refine zv_iload X dX10_scoreOf_83 rfl ?_
    refine zv_iconst (v := (5 : Int32)) X dX10_scoreOf_85 zic_5 ?_
    refine zv_icmp_ge (tgt := 132) X dX10_scoreOf_86 (by decide) (fun c1 => ?_) (fun c1 => ?_)
    · replace e := zit e c1
      refine zv_iload_n X dX10_scoreOf_132 rfl rfl ?_
      exact zv_retI X e rfl dX10_scoreOf_133
    · replace e := zif e c1
      refine zv_iload_n X dX10_scoreOf_89 rfl rfl ?_
      refine zv_aload_n X dX10_scoreOf_90 rfl rfl ?_
      refine zv_getR X zf_RX10_74 znt_a zk_67 zb_67 zr_67_25 dX10_scoreOf_91 ?_
      refine zv_iload X dX10_scoreOf_94 rfl ?_
      refine zb e (fun v2 gv2 e => ?_)
      refine zv_iald X zk_89 zl_89 zb_89 dX10_scoreOf_96 gv2 ?_
      refine zv_aload_n X dX10_scoreOf_97 rfl rfl ?_
      refine zv_getR X zf_RX10_25 znt_a zk_67 zb_67 zr_67_7 dX10_scoreOf_98 ?_
      refine zv_iload X dX10_scoreOf_101 rfl ?_
      refine zb e (fun v3 gv3 e => ?_)
      refine zv_iald X zk_73 zl_73 zb_73 dX10_scoreOf_103 gv3 ?_
      refine zv_icmp_ge (tgt := 117) X dX10_scoreOf_104 (by decide) (fun c4 => ?_) (fun c4 => ?_)
      · replace e := zit e c4
        refine zv_aload_n X dX10_scoreOf_117 rfl rfl ?_
        refine zv_getR X zf_RX10_25 znt_a zk_67 zb_67 zr_67_7 dX10_scoreOf_118 ?_
        refine zv_iload X dX10_scoreOf_121 rfl ?_
        refine zb e (fun v5 gv5 e => ?_)
        refine zv_iald X zk_73 zl_73 zb_73 dX10_scoreOf_123 gv5 ?_
        exact zv_pick X [0, 2] rfl (k_X10_scoreOf_L124 q hd X ih _ _ _ _ e)
      · replace e := zif e c4
        refine zv_aload_n X dX10_scoreOf_107 rfl rfl ?_
        refine zv_getR X zf_RX10_74 znt_a zk_67 zb_67 zr_67_25 dX10_scoreOf_108 ?_
        refine zv_iload X dX10_scoreOf_111 rfl ?_
        refine zb e (fun v6 gv6 e => ?_)
        refine zv_iald X zk_89 zl_89 zb_89 dX10_scoreOf_113 gv6 ?_
        refine zv_goto (tgt := 124) X dX10_scoreOf_114 (by decide) ?_
        exact zv_pick X [0, 2] rfl (k_X10_scoreOf_L124 q hd X ih _ _ _ _ e)
set_option maxRecDepth 100000 in
set_option maxHeartbeats 4000000 in
theorem k_X10_scoreOf_L22 {l : Launch} {D : va_G} {cy : Nat → ClassId} {S0 d : Nat} {J : zJ} (q : (Int32 × zHp)) (hd : 1 ≤ d) (X : zOK l D cy S0 d RX10 cX10_scoreOf 5 (yX10_scoreOf.name == "<init>") 117 117 (some .int) (zRT 117 zRF (some (.int q.1)) q.2) J) : ∀ (f : Nat) (a1 : Int32) (a2 : Int32) (a3 : Int32) (h : zHp), s_X10_scoreOf_L22 f a1 a2 a3 h = some q → J 22 [(0, .ref 67), (1, .int a1), (2, .int a2), (3, .int a3)] [] 117 zRF h := by
  intro f
  induction f with
  | zero => intro _ _ _ h e; exact absurd e (fun z => by cases z)
  | succ f ih =>
    intro a1 a2 a3 h e
    rw [s_X10_scoreOf_L22] at e
    refine zv_iload_n X dX10_scoreOf_22 rfl rfl ?_
    refine zv_aload_n X dX10_scoreOf_23 rfl rfl ?_
    refine zv_getI X zf_RX10_182 zk_67 zb_67 dX10_scoreOf_24 ?_
    refine zv_icmp_ge (tgt := 78) X dX10_scoreOf_27 (by decide) (fun c1 => ?_) (fun c1 => ?_)
    · replace e := zit e c1
      refine zv_iconst (v := (0 : Int32)) X dX10_scoreOf_78 zic_0 ?_
      refine zv_istore_n (i := 3) (lv' := [(3, .int (0 : Int32)), (0, .ref 67), (1, .int a1), (2, .int a2)]) X dX10_scoreOf_79 rfl (Nat.le_of_ble_eq_true rfl) rfl ?_
      refine zv_iconst (v := (0 : Int32)) X dX10_scoreOf_80 zic_0 ?_
      refine zv_istore (i := 4) (lv' := [(4, .int (0 : Int32)), (3, .int (0 : Int32)), (0, .ref 67), (1, .int a1), (2, .int a2)]) X dX10_scoreOf_81 (Nat.le_of_ble_eq_true rfl) rfl ?_
      exact zv_pick X [2, 1, 0] rfl (k_X10_scoreOf_L83 q hd X _ _ _ _ e)
    · replace e := zif e c1
      refine zv_aload_n X dX10_scoreOf_30 rfl rfl ?_
      refine zv_iload_n X dX10_scoreOf_31 rfl rfl ?_
      refine zv_iload_n X dX10_scoreOf_32 rfl rfl ?_
      refine zb e (fun q2 gq2 e => ?_)
      refine zv_callV (stk := [.int a2, .int a3, .ref 67]) (as := [.int a3, .int a2]) (st := []) (k := 67) X zl_RX10_192 zm_X10_standsFor (k_X10_standsFor (d := d - 1) (by omega) gq2) (by omega) zb_67 (by rw [zk_67]; rfl) rfl rfl (Nat.le_of_ble_eq_true rfl) (Nat.le_refl _) rfl dX10_scoreOf_33 ?_
      show J 36 [(0, .ref 67), (1, .int a1), (2, .int a2), (3, .int a3)] [.int q2.1] 117 zRF q2.2
      refine zv_istore (i := 4) (lv' := [(4, .int q2.1), (0, .ref 67), (1, .int a1), (2, .int a2), (3, .int a3)]) X dX10_scoreOf_36 (Nat.le_of_ble_eq_true rfl) rfl ?_
      refine zv_aload_n X dX10_scoreOf_38 rfl rfl ?_
      refine zv_getR X zf_RX10_74 znt_a zk_67 zb_67 zr_67_25 dX10_scoreOf_39 ?_
      refine zv_aload_n X dX10_scoreOf_42 rfl rfl ?_
      refine zv_getR X zf_RX10_7 znt_a zk_67 zb_67 zr_67_2 dX10_scoreOf_43 ?_
      refine zv_iload X dX10_scoreOf_46 rfl ?_
      refine zb e (fun v3 gv3 e => ?_)
      refine zv_iald X zk_68 zl_68 zb_68 dX10_scoreOf_48 gv3 ?_
      refine zv_dup2 X dX10_scoreOf_49 ?_
      refine zb e (fun v4 gv4 e => ?_)
      refine zv_iald X zk_89 zl_89 zb_89 dX10_scoreOf_50 gv4 ?_
      refine zv_aload_n X dX10_scoreOf_51 rfl rfl ?_
      refine zv_getR X zf_RX10_68 znt_a zk_67 zb_67 zr_67_23 dX10_scoreOf_52 ?_
      refine zv_bipush (v := (40 : Int32)) X dX10_scoreOf_55 zbp_40 ?_
      refine zv_iload_n X dX10_scoreOf_57 rfl rfl ?_
      refine zv_imul X dX10_scoreOf_58 ?_
      refine zv_iload_n X dX10_scoreOf_59 rfl rfl ?_
      refine zv_iadd X dX10_scoreOf_60 ?_
      refine zb e (fun v5 gv5 e => ?_)
      refine zv_iald X zk_87 zl_87 zb_87 dX10_scoreOf_61 gv5 ?_
      refine zv_aload_n X dX10_scoreOf_62 rfl rfl ?_
      refine zv_getR X zf_RX10_13 znt_a zk_67 zb_67 zr_67_3 dX10_scoreOf_63 ?_
      refine zv_iload X dX10_scoreOf_66 rfl ?_
      refine zb e (fun v6 gv6 e => ?_)
      refine zv_iald X zk_69 zl_69 zb_69 dX10_scoreOf_68 gv6 ?_
      refine zv_imul X dX10_scoreOf_69 ?_
      refine zv_iadd X dX10_scoreOf_70 ?_
      refine zb e (fun h7 gh7 e => ?_)
      refine zv_iast X zk_89 zl_89 zb_89 dX10_scoreOf_71 gh7 ?_
      refine zv_iinc (k := 4) (v := a3 + (1 : Int32)) (lv' := [(3, .int (a3 + (1 : Int32))), (4, .int q2.1), (0, .ref 67), (1, .int a1), (2, .int a2)]) X dX10_scoreOf_72 rfl rfl (Nat.le_of_ble_eq_true rfl) rfl ?_
      refine zv_goto (tgt := 22) X dX10_scoreOf_75 (by decide) ?_
      exact zv_pick X [2, 3, 4, 0] rfl (ih _ _ _ _ e)
set_option maxRecDepth 100000 in
set_option maxHeartbeats 4000000 in
theorem k_X10_scoreOf_L2 {l : Launch} {D : va_G} {cy : Nat → ClassId} {S0 d : Nat} {J : zJ} (q : (Int32 × zHp)) (hd : 1 ≤ d) (X : zOK l D cy S0 d RX10 cX10_scoreOf 5 (yX10_scoreOf.name == "<init>") 117 117 (some .int) (zRT 117 zRF (some (.int q.1)) q.2) J) : ∀ (f : Nat) (a1 : Int32) (a2 : Int32) (a3 : Int32) (h : zHp), s_X10_scoreOf_L2 f a1 a2 a3 h = some q → J 2 [(0, .ref 67), (1, .int a1), (2, .int a2), (3, .int a3)] [] 117 zRF h := by
  intro f
  induction f with
  | zero => intro _ _ _ h e; exact absurd e (fun z => by cases z)
  | succ f ih =>
    intro a1 a2 a3 h e
    rw [s_X10_scoreOf_L2] at e
    refine zv_iload_n X dX10_scoreOf_2 rfl rfl ?_
    refine zv_iconst (v := (5 : Int32)) X dX10_scoreOf_3 zic_5 ?_
    refine zv_icmp_ge (tgt := 20) X dX10_scoreOf_4 (by decide) (fun c1 => ?_) (fun c1 => ?_)
    · replace e := zit e c1
      refine zv_iconst (v := (0 : Int32)) X dX10_scoreOf_20 zic_0 ?_
      refine zv_istore_n (i := 3) (lv' := [(3, .int (0 : Int32)), (0, .ref 67), (1, .int a1), (2, .int a2)]) X dX10_scoreOf_21 rfl (Nat.le_of_ble_eq_true rfl) rfl ?_
      exact zv_pick X [1, 2, 3, 0] rfl (k_X10_scoreOf_L22 q hd X _ _ _ _ _ e)
    · replace e := zif e c1
      refine zv_aload_n X dX10_scoreOf_7 rfl rfl ?_
      refine zv_getR X zf_RX10_74 znt_a zk_67 zb_67 zr_67_25 dX10_scoreOf_8 ?_
      refine zv_iload_n X dX10_scoreOf_11 rfl rfl ?_
      refine zv_iconst (v := (0 : Int32)) X dX10_scoreOf_12 zic_0 ?_
      refine zb e (fun h2 gh2 e => ?_)
      refine zv_iast X zk_89 zl_89 zb_89 dX10_scoreOf_13 gh2 ?_
      refine zv_iinc (k := 3) (v := a3 + (1 : Int32)) (lv' := [(3, .int (a3 + (1 : Int32))), (0, .ref 67), (1, .int a1), (2, .int a2)]) X dX10_scoreOf_14 rfl rfl (Nat.le_of_ble_eq_true rfl) rfl ?_
      refine zv_goto (tgt := 2) X dX10_scoreOf_17 (by decide) ?_
      exact zv_pick X [1, 2, 3, 0] rfl (ih _ _ _ _ e)
set_option maxRecDepth 100000 in
set_option maxHeartbeats 4000000 in
theorem k_X10_scoreOf {l : Launch} {D : va_G} {cy : Nat → ClassId} {S0 d : Nat} (hd : 1 ≤ d) {a1 : Int32} {a2 : Int32} {h : zHp} {q : (Int32 × zHp)} (e : s_X10_scoreOf a1 a2 h = some q) : zCT l D cy S0 d yX10_scoreOf cX10_scoreOf 5 (some .int) [.ref 67, .int a1, .int a2] 117 zRF h (some (.int q.1)) 117 zRF q.2 := by
  unfold s_X10_scoreOf at e
  refine zCT_of RX10 rfl zm_X10_scoreOf (Nat.le_refl _) (Nat.le_of_ble_eq_true rfl) (fun J X => ?_)
  show J 0 [(0, .ref 67), (1, .int a1), (2, .int a2)] [] 117 zRF h
  refine zv_iconst (v := (0 : Int32)) X dX10_scoreOf_0 zic_0 ?_
  refine zv_istore_n (i := 3) (lv' := [(3, .int (0 : Int32)), (0, .ref 67), (1, .int a1), (2, .int a2)]) X dX10_scoreOf_1 rfl (Nat.le_of_ble_eq_true rfl) rfl ?_
  exact zv_pick X [1, 2, 3, 0] rfl (k_X10_scoreOf_L2 q hd X _ _ _ _ _ e)
-- X10_score
def s_X10_score_L38 (b0 : Int32) (h : zHp) : Option (Int32 × zHp) :=
  some (b0, h)
def s_X10_score (a1 : Int32) (a2 : Int32) (h : zHp) : Option (Int32 × zHp) :=
  (s_X10_isLook a1 h).bind fun q1 =>
  if q1.1 = 0 then
    (s_X10_refuse (-1 : Int32) q1.2).bind fun q8 =>
    some (q8.1, q8.2)
  else
    (s_X10_wrongDay a2 q1.2).bind fun q3 =>
    if 0 ≤ q3.1 then
      (s_X10_scoreOf a1 a2 q3.2).bind fun q5 =>
      s_X10_score_L38 q5.1 q5.2
    else
      (s_X10_wrongDay a2 q3.2).bind fun q6 =>
      (s_X10_refuse q6.1 q6.2).bind fun q7 =>
      s_X10_score_L38 q7.1 q7.2
set_option maxRecDepth 100000 in
set_option maxHeartbeats 4000000 in
theorem k_X10_score_L38 {l : Launch} {D : va_G} {cy : Nat → ClassId} {S0 d : Nat} {J : zJ} (q : (Int32 × zHp)) (hd : 2 ≤ d) (X : zOK l D cy S0 d RX10 cX10_score 3 (yX10_score.name == "<init>") 117 117 (some .int) (zRT 117 zRF (some (.int q.1)) q.2) J) : ∀ (b0 : Int32) (h : zHp), s_X10_score_L38 b0 h = some q → J 38 [] [.int b0] 117 zRF h := by
  intro b0 h e
  unfold s_X10_score_L38 at e
  exact zv_retI X e rfl dX10_score_38
set_option maxRecDepth 100000 in
set_option maxHeartbeats 4000000 in
theorem k_X10_score {l : Launch} {D : va_G} {cy : Nat → ClassId} {S0 d : Nat} (hd : 2 ≤ d) {a1 : Int32} {a2 : Int32} {h : zHp} {q : (Int32 × zHp)} (e : s_X10_score a1 a2 h = some q) : zCT l D cy S0 d yX10_score cX10_score 3 (some .int) [.ref 67, .int a1, .int a2] 117 zRF h (some (.int q.1)) 117 zRF q.2 := by
  unfold s_X10_score at e
  refine zCT_of RX10 rfl zm_X10_score (Nat.le_refl _) (Nat.le_of_ble_eq_true rfl) (fun J X => ?_)
  show J 0 [(0, .ref 67), (1, .int a1), (2, .int a2)] [] 117 zRF h
  refine zv_aload_n X dX10_score_0 rfl rfl ?_
  refine zv_iload_n X dX10_score_1 rfl rfl ?_
  refine zb e (fun q1 gq1 e => ?_)
  refine zv_callV (stk := [.int a1, .ref 67]) (as := [.int a1]) (st := []) (k := 67) X zl_RX10_199 zm_X10_isLook (k_X10_isLook (d := d - 1) (by omega) gq1) (by omega) zb_67 (by rw [zk_67]; rfl) rfl rfl (Nat.le_of_ble_eq_true rfl) (Nat.le_refl _) rfl dX10_score_2 ?_
  show J 5 [(0, .ref 67), (1, .int a1), (2, .int a2)] [.int q1.1] 117 zRF q1.2
  refine zv_if_ne (tgt := 14) X dX10_score_5 (by decide) (fun c2 => ?_) (fun c2 => ?_)
  · replace e := zif e c2
    refine zv_iload_n X dX10_score_14 rfl rfl ?_
    refine zb e (fun q3 gq3 e => ?_)
    refine zv_callS (stk := [.int a2]) (as := [.int a2]) (st := []) X zl_RX10_189 zm_X10_wrongDay (k_X10_wrongDay (d := d - 1) (by omega) gq3) (by omega) rfl (Nat.le_of_ble_eq_true rfl) (Nat.le_refl _) rfl dX10_score_15 ?_
    show J 18 [(0, .ref 67), (1, .int a1), (2, .int a2)] [.int q3.1] 117 zRF q3.2
    refine zv_if_ge (tgt := 32) X dX10_score_18 (by decide) (fun c4 => ?_) (fun c4 => ?_)
    · replace e := zit e c4
      refine zv_aload_n X dX10_score_32 rfl rfl ?_
      refine zv_iload_n X dX10_score_33 rfl rfl ?_
      refine zv_iload_n X dX10_score_34 rfl rfl ?_
      refine zb e (fun q5 gq5 e => ?_)
      refine zv_callV (stk := [.int a2, .int a1, .ref 67]) (as := [.int a1, .int a2]) (st := []) (k := 67) X zl_RX10_202 zm_X10_scoreOf (k_X10_scoreOf (d := d - 1) (by omega) gq5) (by omega) zb_67 (by rw [zk_67]; rfl) rfl rfl (Nat.le_of_ble_eq_true rfl) (Nat.le_refl _) rfl dX10_score_35 ?_
      show J 38 [(0, .ref 67), (1, .int a1), (2, .int a2)] [.int q5.1] 117 zRF q5.2
      exact zv_pick X [] rfl (k_X10_score_L38 q hd X _ _ e)
    · replace e := zif e c4
      refine zv_aload_n X dX10_score_21 rfl rfl ?_
      refine zv_iload_n X dX10_score_22 rfl rfl ?_
      refine zb e (fun q6 gq6 e => ?_)
      refine zv_callS (stk := [.int a2, .ref 67]) (as := [.int a2]) (st := [.ref 67]) X zl_RX10_189 zm_X10_wrongDay (k_X10_wrongDay (d := d - 1) (by omega) gq6) (by omega) rfl (Nat.le_of_ble_eq_true rfl) (Nat.le_refl _) rfl dX10_score_23 ?_
      show J 26 [(0, .ref 67), (1, .int a1), (2, .int a2)] [.int q6.1, .ref 67] 117 zRF q6.2
      refine zb e (fun q7 gq7 e => ?_)
      refine zv_callV (stk := [.int q6.1, .ref 67]) (as := [.int q6.1]) (st := []) (k := 67) X zl_RX10_175 zm_X10_refuse (k_X10_refuse (d := d - 1) (by omega) gq7) (by omega) zb_67 (by rw [zk_67]; rfl) rfl rfl (Nat.le_of_ble_eq_true rfl) (Nat.le_refl _) rfl dX10_score_26 ?_
      show J 29 [(0, .ref 67), (1, .int a1), (2, .int a2)] [.int q7.1] 117 zRF q7.2
      refine zv_goto (tgt := 38) X dX10_score_29 (by decide) ?_
      exact zv_pick X [] rfl (k_X10_score_L38 q hd X _ _ e)
  · replace e := zit e c2
    refine zv_aload_n X dX10_score_8 rfl rfl ?_
    refine zv_iconst (v := (-1 : Int32)) X dX10_score_9 zic_m1 ?_
    refine zb e (fun q8 gq8 e => ?_)
    refine zv_callV (stk := [.int (-1 : Int32), .ref 67]) (as := [.int (-1 : Int32)]) (st := []) (k := 67) X zl_RX10_175 zm_X10_refuse (k_X10_refuse (d := d - 1) (by omega) gq8) (by omega) zb_67 (by rw [zk_67]; rfl) rfl rfl (Nat.le_of_ble_eq_true rfl) (Nat.le_refl _) rfl dX10_score_10 ?_
    show J 13 [(0, .ref 67), (1, .int a1), (2, .int a2)] [.int q8.1] 117 zRF q8.2
    exact zv_retI X e rfl dX10_score_13
-- X6_isFull
def s_X6_isFull_L14 (b0 : Int32) (h : zHp) : Option (Int32 × zHp) :=
  (zbo b0).bind fun u1 =>
  some (b0, h)
def s_X6_isFull  (h : zHp) : Option (Int32 × zHp) :=
  if (h.1 32 2) < (10 : Int32) then
    s_X6_isFull_L14 (0 : Int32) h
  else
    s_X6_isFull_L14 (1 : Int32) h
set_option maxRecDepth 100000 in
set_option maxHeartbeats 4000000 in
theorem k_X6_isFull_L14 {l : Launch} {D : va_G} {cy : Nat → ClassId} {S0 d : Nat} {J : zJ} (q : (Int32 × zHp)) (hd : 0 ≤ d) (X : zOK l D cy S0 d RX6 cX6_isFull 1 (yX6_isFull.name == "<init>") 117 117 (some .boolean) (zRT 117 zRF (some (.int q.1)) q.2) J) : ∀ (b0 : Int32) (h : zHp), s_X6_isFull_L14 b0 h = some q → J 14 [] [.int b0] 117 zRF h := by
  intro b0 h e
  unfold s_X6_isFull_L14 at e
  refine zb e (fun u gu e => ?_)
  exact zv_retZ X e rfl (zbo_ok gu) dX6_isFull_14
set_option maxRecDepth 100000 in
set_option maxHeartbeats 4000000 in
theorem k_X6_isFull {l : Launch} {D : va_G} {cy : Nat → ClassId} {S0 d : Nat} (hd : 0 ≤ d) {h : zHp} {q : (Int32 × zHp)} (e : s_X6_isFull  h = some q) : zCT l D cy S0 d yX6_isFull cX6_isFull 1 (some .boolean) [.ref 32] 117 zRF h (some (.int q.1)) 117 zRF q.2 := by
  unfold s_X6_isFull at e
  refine zCT_of RX6 rfl zm_X6_isFull (Nat.le_refl _) (Nat.le_of_ble_eq_true rfl) (fun J X => ?_)
  show J 0 [(0, .ref 32)] [] 117 zRF h
  refine zv_aload_n X dX6_isFull_0 rfl rfl ?_
  refine zv_getI X zf_RX6_18 zk_32 zb_32 dX6_isFull_1 ?_
  refine zv_bipush (v := (10 : Int32)) X dX6_isFull_4 zbp_10 ?_
  refine zv_icmp_lt (tgt := 13) X dX6_isFull_6 (by decide) (fun c1 => ?_) (fun c1 => ?_)
  · replace e := zit e c1
    refine zv_iconst (v := (0 : Int32)) X dX6_isFull_13 zic_0 ?_
    exact zv_pick X [] rfl (k_X6_isFull_L14 q hd X _ _ e)
  · replace e := zif e c1
    refine zv_iconst (v := (1 : Int32)) X dX6_isFull_9 zic_1 ?_
    refine zv_goto (tgt := 14) X dX6_isFull_10 (by decide) ?_
    exact zv_pick X [] rfl (k_X6_isFull_L14 q hd X _ _ e)
-- X6_add
def s_X6_add (a1 : Int32) (a2 : Int32) (a3 : Int32) (a4 : Int32) (a5 : Int32) (h : zHp) : Option (Int32 × zHp) :=
  (some ((h.1 32 2) * (4 : Int32))).bind fun v1 =>
  (zui h 33 10 (h.1 32 2) a1).bind fun h2 =>
  (zui h2 34 40 v1 a2).bind fun h3 =>
  (zui h3 34 40 (v1 + (1 : Int32)) a3).bind fun h4 =>
  (zui h4 34 40 (v1 + (2 : Int32)) a4).bind fun h5 =>
  (zui h5 34 40 (v1 + (3 : Int32)) a5).bind fun h6 =>
  (some (h6.1 32 2)).bind fun v7 =>
  (some (v7 + (1 : Int32))).bind fun v8 =>
  (zpi h6 32 2 v8).bind fun h9 =>
  some (v7, h9)
set_option maxRecDepth 100000 in
set_option maxHeartbeats 4000000 in
theorem k_X6_add {l : Launch} {D : va_G} {cy : Nat → ClassId} {S0 d : Nat} (hd : 0 ≤ d) {a1 : Int32} {a2 : Int32} {a3 : Int32} {a4 : Int32} {a5 : Int32} {h : zHp} {q : (Int32 × zHp)} (e : s_X6_add a1 a2 a3 a4 a5 h = some q) : zCT l D cy S0 d yX6_add cX6_add 7 (some .int) [.ref 32, .int a1, .int a2, .int a3, .int a4, .int a5] 117 zRF h (some (.int q.1)) 117 zRF q.2 := by
  unfold s_X6_add at e
  refine zCT_of RX6 rfl zm_X6_add (Nat.le_refl _) (Nat.le_of_ble_eq_true rfl) (fun J X => ?_)
  show J 0 [(0, .ref 32), (1, .int a1), (2, .int a2), (3, .int a3), (4, .int a4), (5, .int a5)] [] 117 zRF h
  refine zv_aload_n X dX6_add_0 rfl rfl ?_
  refine zv_getI X zf_RX6_18 zk_32 zb_32 dX6_add_1 ?_
  refine zv_iconst (v := (4 : Int32)) X dX6_add_4 zic_4 ?_
  refine zv_imul X dX6_add_5 ?_
  refine zb e (fun v1 gv1 e => ?_)
  refine zv_nmI X gv1 ?_
  refine zv_istore (i := 6) (lv' := [(6, .int v1), (0, .ref 32), (1, .int a1), (2, .int a2), (3, .int a3), (4, .int a4), (5, .int a5)]) X dX6_add_6 (Nat.le_of_ble_eq_true rfl) rfl ?_
  refine zv_aload_n X dX6_add_8 rfl rfl ?_
  refine zv_getR X zf_RX6_9 znt_a zk_32 zb_32 zr_32_0 dX6_add_9 ?_
  refine zv_aload_n X dX6_add_12 rfl rfl ?_
  refine zv_getI X zf_RX6_18 zk_32 zb_32 dX6_add_13 ?_
  refine zv_iload_n X dX6_add_16 rfl rfl ?_
  refine zb e (fun h2 gh2 e => ?_)
  refine zv_iast X zk_33 zl_33 zb_33 dX6_add_17 gh2 ?_
  refine zv_aload_n X dX6_add_18 rfl rfl ?_
  refine zv_getR X zf_RX6_15 znt_a zk_32 zb_32 zr_32_1 dX6_add_19 ?_
  refine zv_iload X dX6_add_22 rfl ?_
  refine zv_iload_n X dX6_add_24 rfl rfl ?_
  refine zb e (fun h3 gh3 e => ?_)
  refine zv_iast X zk_34 zl_34 zb_34 dX6_add_25 gh3 ?_
  refine zv_aload_n X dX6_add_26 rfl rfl ?_
  refine zv_getR X zf_RX6_15 znt_a zk_32 zb_32 zr_32_1 dX6_add_27 ?_
  refine zv_iload X dX6_add_30 rfl ?_
  refine zv_iconst (v := (1 : Int32)) X dX6_add_32 zic_1 ?_
  refine zv_iadd X dX6_add_33 ?_
  refine zv_iload_n X dX6_add_34 rfl rfl ?_
  refine zb e (fun h4 gh4 e => ?_)
  refine zv_iast X zk_34 zl_34 zb_34 dX6_add_35 gh4 ?_
  refine zv_aload_n X dX6_add_36 rfl rfl ?_
  refine zv_getR X zf_RX6_15 znt_a zk_32 zb_32 zr_32_1 dX6_add_37 ?_
  refine zv_iload X dX6_add_40 rfl ?_
  refine zv_iconst (v := (2 : Int32)) X dX6_add_42 zic_2 ?_
  refine zv_iadd X dX6_add_43 ?_
  refine zv_iload X dX6_add_44 rfl ?_
  refine zb e (fun h5 gh5 e => ?_)
  refine zv_iast X zk_34 zl_34 zb_34 dX6_add_46 gh5 ?_
  refine zv_aload_n X dX6_add_47 rfl rfl ?_
  refine zv_getR X zf_RX6_15 znt_a zk_32 zb_32 zr_32_1 dX6_add_48 ?_
  refine zv_iload X dX6_add_51 rfl ?_
  refine zv_iconst (v := (3 : Int32)) X dX6_add_53 zic_3 ?_
  refine zv_iadd X dX6_add_54 ?_
  refine zv_iload X dX6_add_55 rfl ?_
  refine zb e (fun h6 gh6 e => ?_)
  refine zv_iast X zk_34 zl_34 zb_34 dX6_add_57 gh6 ?_
  refine zv_aload_n X dX6_add_58 rfl rfl ?_
  refine zv_dup_r X dX6_add_59 ?_
  refine zv_getI X zf_RX6_18 zk_32 zb_32 dX6_add_60 ?_
  refine zb e (fun v7 gv7 e => ?_)
  refine zv_nmI X gv7 ?_
  refine zv_dup_x1 X dX6_add_63 ?_
  refine zv_iconst (v := (1 : Int32)) X dX6_add_64 zic_1 ?_
  refine zv_iadd X dX6_add_65 ?_
  refine zb e (fun v8 gv8 e => ?_)
  refine zv_nmI X gv8 ?_
  refine zb e (fun h9 gh9 e => ?_)
  refine zv_putI' X zf_RX6_18 zk_32 zb_32 dX6_add_66 gh9 ?_
  exact zv_retI X e rfl dX6_add_69
-- X9_table
def s_X9_table_L30  (h : zHp) : Option (Int32 × zHp) :=
  (s_X9_refused (-4 : Int32) h).bind fun q1 =>
  some (q1.1, q1.2)
def s_X9_table_L62  (h : zHp) : Option (Int32 × zHp) :=
  (s_X9_refused (-6 : Int32) h).bind fun q1 =>
  some (q1.1, q1.2)
def s_X9_table (a1 : Int32) (a2 : Int32) (a3 : Int32) (a4 : Int32) (a5 : Int32) (h : zHp) : Option (Int32 × zHp) :=
  if a1 < (h.1 0 14) then
    s_X9_table_L30 h
  else
    if a2 < 0 then
      s_X9_table_L30 h
    else
      if a3 < a2 then
        s_X9_table_L30 h
      else
        if a4 < a3 then
          s_X9_table_L30 h
        else
          if a4 ≤ a5 then
            if (1500 : Int32) < a1 then
              s_X9_table_L62 h
            else
              if (999 : Int32) < a5 then
                s_X9_table_L62 h
              else
                (s_X6_isFull h).bind fun q8 =>
                if q8.1 = 0 then
                  (s_X6_add a1 a2 a3 a4 a5 q8.2).bind fun q10 =>
                  some (q10.1, q10.2)
                else
                  s_X9_table_L62 q8.2
          else
            s_X9_table_L30 h
set_option maxRecDepth 100000 in
set_option maxHeartbeats 4000000 in
theorem k_X9_table_L30 {l : Launch} {D : va_G} {cy : Nat → ClassId} {S0 d : Nat} {J : zJ} (q : (Int32 × zHp)) (hd : 1 ≤ d) (X : zOK l D cy S0 d RX9 cX9_table 6 (yX9_table.name == "<init>") 117 117 (some .int) (zRT 117 zRF (some (.int q.1)) q.2) J) : ∀  (h : zHp), s_X9_table_L30  h = some q → J 30 [(0, .ref 0)] [] 117 zRF h := by
  intro  h e
  unfold s_X9_table_L30 at e
  refine zv_aload_n X dX9_table_30 rfl rfl ?_
  refine zv_bipush (v := (-4 : Int32)) X dX9_table_31 zbp_m4 ?_
  refine zb e (fun q1 gq1 e => ?_)
  refine zv_callV (stk := [.int (-4 : Int32), .ref 0]) (as := [.int (-4 : Int32)]) (st := []) (k := 0) X zl_RX9_108 zm_X9_refused (k_X9_refused (d := d - 1) (by omega) gq1) (by omega) zb_0 (by rw [zk_0]; rfl) rfl rfl (Nat.le_of_ble_eq_true rfl) (Nat.le_refl _) rfl dX9_table_33 ?_
  show J 36 [(0, .ref 0)] [.int q1.1] 117 zRF q1.2
  exact zv_retI X e rfl dX9_table_36
set_option maxRecDepth 100000 in
set_option maxHeartbeats 4000000 in
theorem k_X9_table_L62 {l : Launch} {D : va_G} {cy : Nat → ClassId} {S0 d : Nat} {J : zJ} (q : (Int32 × zHp)) (hd : 1 ≤ d) (X : zOK l D cy S0 d RX9 cX9_table 6 (yX9_table.name == "<init>") 117 117 (some .int) (zRT 117 zRF (some (.int q.1)) q.2) J) : ∀  (h : zHp), s_X9_table_L62  h = some q → J 62 [(0, .ref 0)] [] 117 zRF h := by
  intro  h e
  unfold s_X9_table_L62 at e
  refine zv_aload_n X dX9_table_62 rfl rfl ?_
  refine zv_bipush (v := (-6 : Int32)) X dX9_table_63 zbp_m6 ?_
  refine zb e (fun q1 gq1 e => ?_)
  refine zv_callV (stk := [.int (-6 : Int32), .ref 0]) (as := [.int (-6 : Int32)]) (st := []) (k := 0) X zl_RX9_108 zm_X9_refused (k_X9_refused (d := d - 1) (by omega) gq1) (by omega) zb_0 (by rw [zk_0]; rfl) rfl rfl (Nat.le_of_ble_eq_true rfl) (Nat.le_refl _) rfl dX9_table_65 ?_
  show J 68 [(0, .ref 0)] [.int q1.1] 117 zRF q1.2
  exact zv_retI X e rfl dX9_table_68
set_option maxRecDepth 100000 in
set_option maxHeartbeats 4000000 in
theorem k_X9_table {l : Launch} {D : va_G} {cy : Nat → ClassId} {S0 d : Nat} (hd : 1 ≤ d) {a1 : Int32} {a2 : Int32} {a3 : Int32} {a4 : Int32} {a5 : Int32} {h : zHp} {q : (Int32 × zHp)} (e : s_X9_table a1 a2 a3 a4 a5 h = some q) : zCT l D cy S0 d yX9_table cX9_table 6 (some .int) [.ref 0, .int a1, .int a2, .int a3, .int a4, .int a5] 117 zRF h (some (.int q.1)) 117 zRF q.2 := by
  unfold s_X9_table at e
  refine zCT_of RX9 rfl zm_X9_table (Nat.le_refl _) (Nat.le_of_ble_eq_true rfl) (fun J X => ?_)
  show J 0 [(0, .ref 0), (1, .int a1), (2, .int a2), (3, .int a3), (4, .int a4), (5, .int a5)] [] 117 zRF h
  refine zv_iload_n X dX9_table_0 rfl rfl ?_
  refine zv_aload_n X dX9_table_1 rfl rfl ?_
  refine zv_getI X zf_RX9_95 zk_0 zb_0 dX9_table_2 ?_
  refine zv_icmp_lt (tgt := 30) X dX9_table_5 (by decide) (fun c1 => ?_) (fun c1 => ?_)
  · replace e := zit e c1
    exact zv_pick X [0] rfl (k_X9_table_L30 q hd X  _ e)
  · replace e := zif e c1
    refine zv_iload_n X dX9_table_8 rfl rfl ?_
    refine zv_if_lt (tgt := 30) X dX9_table_9 (by decide) (fun c2 => ?_) (fun c2 => ?_)
    · replace e := zit e c2
      exact zv_pick X [0] rfl (k_X9_table_L30 q hd X  _ e)
    · replace e := zif e c2
      refine zv_iload_n X dX9_table_12 rfl rfl ?_
      refine zv_iload_n X dX9_table_13 rfl rfl ?_
      refine zv_icmp_gt (tgt := 30) X dX9_table_14 (by decide) (fun c3 => ?_) (fun c3 => ?_)
      · replace e := zit e c3
        exact zv_pick X [0] rfl (k_X9_table_L30 q hd X  _ e)
      · replace e := zif e c3
        refine zv_iload_n X dX9_table_17 rfl rfl ?_
        refine zv_iload X dX9_table_18 rfl ?_
        refine zv_icmp_gt (tgt := 30) X dX9_table_20 (by decide) (fun c4 => ?_) (fun c4 => ?_)
        · replace e := zit e c4
          exact zv_pick X [0] rfl (k_X9_table_L30 q hd X  _ e)
        · replace e := zif e c4
          refine zv_iload X dX9_table_23 rfl ?_
          refine zv_iload X dX9_table_25 rfl ?_
          refine zv_icmp_le (tgt := 37) X dX9_table_27 (by decide) (fun c5 => ?_) (fun c5 => ?_)
          · replace e := zit e c5
            refine zv_iload_n X dX9_table_37 rfl rfl ?_
            refine zv_sipush (v := (1500 : Int32)) X dX9_table_38 zsp_1500 ?_
            refine zv_icmp_gt (tgt := 62) X dX9_table_41 (by decide) (fun c6 => ?_) (fun c6 => ?_)
            · replace e := zit e c6
              exact zv_pick X [0] rfl (k_X9_table_L62 q hd X  _ e)
            · replace e := zif e c6
              refine zv_iload X dX9_table_44 rfl ?_
              refine zv_sipush (v := (999 : Int32)) X dX9_table_46 zsp_999 ?_
              refine zv_icmp_gt (tgt := 62) X dX9_table_49 (by decide) (fun c7 => ?_) (fun c7 => ?_)
              · replace e := zit e c7
                exact zv_pick X [0] rfl (k_X9_table_L62 q hd X  _ e)
              · replace e := zif e c7
                refine zv_aload_n X dX9_table_52 rfl rfl ?_
                refine zv_getR X zf_RX9_52 znt_o zk_0 zb_0 zr_0_8 dX9_table_53 ?_
                refine zb e (fun q8 gq8 e => ?_)
                refine zv_callV (stk := [.ref 32]) (as := []) (st := []) (k := 32) X zl_RX9_191 zm_X6_isFull (k_X6_isFull (d := d - 1) (by omega) gq8) (by omega) zb_32 (by rw [zk_32]; rfl) rfl rfl (Nat.le_of_ble_eq_true rfl) (Nat.le_refl _) rfl dX9_table_56 ?_
                show J 59 [(0, .ref 0), (1, .int a1), (2, .int a2), (3, .int a3), (4, .int a4), (5, .int a5)] [.int q8.1] 117 zRF q8.2
                refine zv_if_eq (tgt := 69) X dX9_table_59 (by decide) (fun c9 => ?_) (fun c9 => ?_)
                · replace e := zit e c9
                  refine zv_aload_n X dX9_table_69 rfl rfl ?_
                  refine zv_getR X zf_RX9_52 znt_o zk_0 zb_0 zr_0_8 dX9_table_70 ?_
                  refine zv_iload_n X dX9_table_73 rfl rfl ?_
                  refine zv_iload_n X dX9_table_74 rfl rfl ?_
                  refine zv_iload_n X dX9_table_75 rfl rfl ?_
                  refine zv_iload X dX9_table_76 rfl ?_
                  refine zv_iload X dX9_table_78 rfl ?_
                  refine zb e (fun q10 gq10 e => ?_)
                  refine zv_callV (stk := [.int a5, .int a4, .int a3, .int a2, .int a1, .ref 32]) (as := [.int a1, .int a2, .int a3, .int a4, .int a5]) (st := []) (k := 32) X zl_RX9_192 zm_X6_add (k_X6_add (d := d - 1) (by omega) gq10) (by omega) zb_32 (by rw [zk_32]; rfl) rfl rfl (Nat.le_of_ble_eq_true rfl) (Nat.le_refl _) rfl dX9_table_80 ?_
                  show J 83 [(0, .ref 0), (1, .int a1), (2, .int a2), (3, .int a3), (4, .int a4), (5, .int a5)] [.int q10.1] 117 zRF q10.2
                  exact zv_retI X e rfl dX9_table_83
                · replace e := zif e c9
                  exact zv_pick X [0] rfl (k_X9_table_L62 q hd X  _ e)
          · replace e := zif e c5
            exact zv_pick X [0] rfl (k_X9_table_L30 q hd X  _ e)
-- X10_table
def s_X10_table_L30  (h : zHp) : Option (Int32 × zHp) :=
  (s_X10_refuse (-4 : Int32) h).bind fun q1 =>
  some (q1.1, q1.2)
def s_X10_table_L61  (h : zHp) : Option (Int32 × zHp) :=
  (s_X10_refuse (-6 : Int32) h).bind fun q1 =>
  some (q1.1, q1.2)
def s_X10_table (a1 : Int32) (a2 : Int32) (a3 : Int32) (a4 : Int32) (a5 : Int32) (h : zHp) : Option (Int32 × zHp) :=
  if a1 < (h.1 67 0) then
    s_X10_table_L30 h
  else
    if a2 < 0 then
      s_X10_table_L30 h
    else
      if a3 < a2 then
        s_X10_table_L30 h
      else
        if a4 < a3 then
          s_X10_table_L30 h
        else
          if a4 ≤ a5 then
            if (1500 : Int32) < a1 then
              s_X10_table_L61 h
            else
              if (999 : Int32) < a5 then
                s_X10_table_L61 h
              else
                if (h.1 67 26) = (10 : Int32) then
                  s_X10_table_L61 h
                else
                  (zui h 90 10 (h.1 67 26) a1).bind fun h9 =>
                  (zui h9 91 40 ((4 : Int32) * (h9.1 67 26)) a2).bind fun h10 =>
                  (zui h10 91 40 (((4 : Int32) * (h10.1 67 26)) + (1 : Int32)) a3).bind fun h11 =>
                  (zui h11 91 40 (((4 : Int32) * (h11.1 67 26)) + (2 : Int32)) a4).bind fun h12 =>
                  (zui h12 91 40 (((4 : Int32) * (h12.1 67 26)) + (3 : Int32)) a5).bind fun h13 =>
                  (some ((h13.1 67 26) + (1 : Int32))).bind fun v14 =>
                  (zpi h13 67 26 v14).bind fun h15 =>
                  some ((h15.1 67 26) - (1 : Int32), h15)
          else
            s_X10_table_L30 h
set_option maxRecDepth 100000 in
set_option maxHeartbeats 4000000 in
theorem k_X10_table_L30 {l : Launch} {D : va_G} {cy : Nat → ClassId} {S0 d : Nat} {J : zJ} (q : (Int32 × zHp)) (hd : 1 ≤ d) (X : zOK l D cy S0 d RX10 cX10_table 6 (yX10_table.name == "<init>") 117 117 (some .int) (zRT 117 zRF (some (.int q.1)) q.2) J) : ∀  (h : zHp), s_X10_table_L30  h = some q → J 30 [(0, .ref 67)] [] 117 zRF h := by
  intro  h e
  unfold s_X10_table_L30 at e
  refine zv_aload_n X dX10_table_30 rfl rfl ?_
  refine zv_bipush (v := (-4 : Int32)) X dX10_table_31 zbp_m4 ?_
  refine zb e (fun q1 gq1 e => ?_)
  refine zv_callV (stk := [.int (-4 : Int32), .ref 67]) (as := [.int (-4 : Int32)]) (st := []) (k := 67) X zl_RX10_175 zm_X10_refuse (k_X10_refuse (d := d - 1) (by omega) gq1) (by omega) zb_67 (by rw [zk_67]; rfl) rfl rfl (Nat.le_of_ble_eq_true rfl) (Nat.le_refl _) rfl dX10_table_33 ?_
  show J 36 [(0, .ref 67)] [.int q1.1] 117 zRF q1.2
  exact zv_retI X e rfl dX10_table_36
set_option maxRecDepth 100000 in
set_option maxHeartbeats 4000000 in
theorem k_X10_table_L61 {l : Launch} {D : va_G} {cy : Nat → ClassId} {S0 d : Nat} {J : zJ} (q : (Int32 × zHp)) (hd : 1 ≤ d) (X : zOK l D cy S0 d RX10 cX10_table 6 (yX10_table.name == "<init>") 117 117 (some .int) (zRT 117 zRF (some (.int q.1)) q.2) J) : ∀  (h : zHp), s_X10_table_L61  h = some q → J 61 [(0, .ref 67)] [] 117 zRF h := by
  intro  h e
  unfold s_X10_table_L61 at e
  refine zv_aload_n X dX10_table_61 rfl rfl ?_
  refine zv_bipush (v := (-6 : Int32)) X dX10_table_62 zbp_m6 ?_
  refine zb e (fun q1 gq1 e => ?_)
  refine zv_callV (stk := [.int (-6 : Int32), .ref 67]) (as := [.int (-6 : Int32)]) (st := []) (k := 67) X zl_RX10_175 zm_X10_refuse (k_X10_refuse (d := d - 1) (by omega) gq1) (by omega) zb_67 (by rw [zk_67]; rfl) rfl rfl (Nat.le_of_ble_eq_true rfl) (Nat.le_refl _) rfl dX10_table_64 ?_
  show J 67 [(0, .ref 67)] [.int q1.1] 117 zRF q1.2
  exact zv_retI X e rfl dX10_table_67
set_option maxRecDepth 100000 in
set_option maxHeartbeats 4000000 in
theorem k_X10_table {l : Launch} {D : va_G} {cy : Nat → ClassId} {S0 d : Nat} (hd : 1 ≤ d) {a1 : Int32} {a2 : Int32} {a3 : Int32} {a4 : Int32} {a5 : Int32} {h : zHp} {q : (Int32 × zHp)} (e : s_X10_table a1 a2 a3 a4 a5 h = some q) : zCT l D cy S0 d yX10_table cX10_table 6 (some .int) [.ref 67, .int a1, .int a2, .int a3, .int a4, .int a5] 117 zRF h (some (.int q.1)) 117 zRF q.2 := by
  unfold s_X10_table at e
  refine zCT_of RX10 rfl zm_X10_table (Nat.le_refl _) (Nat.le_of_ble_eq_true rfl) (fun J X => ?_)
  show J 0 [(0, .ref 67), (1, .int a1), (2, .int a2), (3, .int a3), (4, .int a4), (5, .int a5)] [] 117 zRF h
  refine zv_iload_n X dX10_table_0 rfl rfl ?_
  refine zv_aload_n X dX10_table_1 rfl rfl ?_
  refine zv_getI X zf_RX10_179 zk_67 zb_67 dX10_table_2 ?_
  refine zv_icmp_lt (tgt := 30) X dX10_table_5 (by decide) (fun c1 => ?_) (fun c1 => ?_)
  · replace e := zit e c1
    exact zv_pick X [0] rfl (k_X10_table_L30 q hd X  _ e)
  · replace e := zif e c1
    refine zv_iload_n X dX10_table_8 rfl rfl ?_
    refine zv_if_lt (tgt := 30) X dX10_table_9 (by decide) (fun c2 => ?_) (fun c2 => ?_)
    · replace e := zit e c2
      exact zv_pick X [0] rfl (k_X10_table_L30 q hd X  _ e)
    · replace e := zif e c2
      refine zv_iload_n X dX10_table_12 rfl rfl ?_
      refine zv_iload_n X dX10_table_13 rfl rfl ?_
      refine zv_icmp_lt (tgt := 30) X dX10_table_14 (by decide) (fun c3 => ?_) (fun c3 => ?_)
      · replace e := zit e c3
        exact zv_pick X [0] rfl (k_X10_table_L30 q hd X  _ e)
      · replace e := zif e c3
        refine zv_iload X dX10_table_17 rfl ?_
        refine zv_iload_n X dX10_table_19 rfl rfl ?_
        refine zv_icmp_lt (tgt := 30) X dX10_table_20 (by decide) (fun c4 => ?_) (fun c4 => ?_)
        · replace e := zit e c4
          exact zv_pick X [0] rfl (k_X10_table_L30 q hd X  _ e)
        · replace e := zif e c4
          refine zv_iload X dX10_table_23 rfl ?_
          refine zv_iload X dX10_table_25 rfl ?_
          refine zv_icmp_ge (tgt := 37) X dX10_table_27 (by decide) (fun c5 => ?_) (fun c5 => ?_)
          · replace e := zit e c5
            refine zv_iload_n X dX10_table_37 rfl rfl ?_
            refine zv_sipush (v := (1500 : Int32)) X dX10_table_38 zsp_1500 ?_
            refine zv_icmp_gt (tgt := 61) X dX10_table_41 (by decide) (fun c6 => ?_) (fun c6 => ?_)
            · replace e := zit e c6
              exact zv_pick X [0] rfl (k_X10_table_L61 q hd X  _ e)
            · replace e := zif e c6
              refine zv_iload X dX10_table_44 rfl ?_
              refine zv_sipush (v := (999 : Int32)) X dX10_table_46 zsp_999 ?_
              refine zv_icmp_gt (tgt := 61) X dX10_table_49 (by decide) (fun c7 => ?_) (fun c7 => ?_)
              · replace e := zit e c7
                exact zv_pick X [0] rfl (k_X10_table_L61 q hd X  _ e)
              · replace e := zif e c7
                refine zv_aload_n X dX10_table_52 rfl rfl ?_
                refine zv_getI X zf_RX10_205 zk_67 zb_67 dX10_table_53 ?_
                refine zv_bipush (v := (10 : Int32)) X dX10_table_56 zbp_10 ?_
                refine zv_icmp_ne (tgt := 68) X dX10_table_58 (by decide) (fun c8 => ?_) (fun c8 => ?_)
                · replace e := zif e c8
                  refine zv_aload_n X dX10_table_68 rfl rfl ?_
                  refine zv_getR X zf_RX10_77 znt_a zk_67 zb_67 zr_67_27 dX10_table_69 ?_
                  refine zv_aload_n X dX10_table_72 rfl rfl ?_
                  refine zv_getI X zf_RX10_205 zk_67 zb_67 dX10_table_73 ?_
                  refine zv_iload_n X dX10_table_76 rfl rfl ?_
                  refine zb e (fun h9 gh9 e => ?_)
                  refine zv_iast X zk_90 zl_90 zb_90 dX10_table_77 gh9 ?_
                  refine zv_aload_n X dX10_table_78 rfl rfl ?_
                  refine zv_getR X zf_RX10_80 znt_a zk_67 zb_67 zr_67_28 dX10_table_79 ?_
                  refine zv_iconst (v := (4 : Int32)) X dX10_table_82 zic_4 ?_
                  refine zv_aload_n X dX10_table_83 rfl rfl ?_
                  refine zv_getI X zf_RX10_205 zk_67 zb_67 dX10_table_84 ?_
                  refine zv_imul X dX10_table_87 ?_
                  refine zv_iload_n X dX10_table_88 rfl rfl ?_
                  refine zb e (fun h10 gh10 e => ?_)
                  refine zv_iast X zk_91 zl_91 zb_91 dX10_table_89 gh10 ?_
                  refine zv_aload_n X dX10_table_90 rfl rfl ?_
                  refine zv_getR X zf_RX10_80 znt_a zk_67 zb_67 zr_67_28 dX10_table_91 ?_
                  refine zv_iconst (v := (4 : Int32)) X dX10_table_94 zic_4 ?_
                  refine zv_aload_n X dX10_table_95 rfl rfl ?_
                  refine zv_getI X zf_RX10_205 zk_67 zb_67 dX10_table_96 ?_
                  refine zv_imul X dX10_table_99 ?_
                  refine zv_iconst (v := (1 : Int32)) X dX10_table_100 zic_1 ?_
                  refine zv_iadd X dX10_table_101 ?_
                  refine zv_iload_n X dX10_table_102 rfl rfl ?_
                  refine zb e (fun h11 gh11 e => ?_)
                  refine zv_iast X zk_91 zl_91 zb_91 dX10_table_103 gh11 ?_
                  refine zv_aload_n X dX10_table_104 rfl rfl ?_
                  refine zv_getR X zf_RX10_80 znt_a zk_67 zb_67 zr_67_28 dX10_table_105 ?_
                  refine zv_iconst (v := (4 : Int32)) X dX10_table_108 zic_4 ?_
                  refine zv_aload_n X dX10_table_109 rfl rfl ?_
                  refine zv_getI X zf_RX10_205 zk_67 zb_67 dX10_table_110 ?_
                  refine zv_imul X dX10_table_113 ?_
                  refine zv_iconst (v := (2 : Int32)) X dX10_table_114 zic_2 ?_
                  refine zv_iadd X dX10_table_115 ?_
                  refine zv_iload X dX10_table_116 rfl ?_
                  refine zb e (fun h12 gh12 e => ?_)
                  refine zv_iast X zk_91 zl_91 zb_91 dX10_table_118 gh12 ?_
                  refine zv_aload_n X dX10_table_119 rfl rfl ?_
                  refine zv_getR X zf_RX10_80 znt_a zk_67 zb_67 zr_67_28 dX10_table_120 ?_
                  refine zv_iconst (v := (4 : Int32)) X dX10_table_123 zic_4 ?_
                  refine zv_aload_n X dX10_table_124 rfl rfl ?_
                  refine zv_getI X zf_RX10_205 zk_67 zb_67 dX10_table_125 ?_
                  refine zv_imul X dX10_table_128 ?_
                  refine zv_iconst (v := (3 : Int32)) X dX10_table_129 zic_3 ?_
                  refine zv_iadd X dX10_table_130 ?_
                  refine zv_iload X dX10_table_131 rfl ?_
                  refine zb e (fun h13 gh13 e => ?_)
                  refine zv_iast X zk_91 zl_91 zb_91 dX10_table_133 gh13 ?_
                  refine zv_aload_n X dX10_table_134 rfl rfl ?_
                  refine zv_dup_r X dX10_table_135 ?_
                  refine zv_getI X zf_RX10_205 zk_67 zb_67 dX10_table_136 ?_
                  refine zv_iconst (v := (1 : Int32)) X dX10_table_139 zic_1 ?_
                  refine zv_iadd X dX10_table_140 ?_
                  refine zb e (fun v14 gv14 e => ?_)
                  refine zv_nmI X gv14 ?_
                  refine zb e (fun h15 gh15 e => ?_)
                  refine zv_putI' X zf_RX10_205 zk_67 zb_67 dX10_table_141 gh15 ?_
                  refine zv_aload_n X dX10_table_144 rfl rfl ?_
                  refine zv_getI X zf_RX10_205 zk_67 zb_67 dX10_table_145 ?_
                  refine zv_iconst (v := (1 : Int32)) X dX10_table_148 zic_1 ?_
                  refine zv_isub X dX10_table_149 ?_
                  exact zv_retI X e rfl dX10_table_150
                · replace e := zit e c8
                  exact zv_pick X [0] rfl (k_X10_table_L61 q hd X  _ e)
          · replace e := zif e c5
            exact zv_pick X [0] rfl (k_X10_table_L30 q hd X  _ e)
-- X5_latestOf
def s_X5_latestOf_L99 (k9 : Int32 → Int32 → Int32 → Int32 → Int32 → Int32 → zHp → Option (Int32 × zHp)) (a1 : Int32) (a2 : Int32) (a3 : Int32) (a4 : Int32) (a5 : Int32) (a6 : Int32) (h : zHp) : Option (Int32 × zHp) :=
  k9 a1 a2 a3 a4 a5 (a6 + (1 : Int32)) h
def s_X5_latestOf_L45 (k9 : Int32 → Int32 → Int32 → Int32 → Int32 → Int32 → zHp → Option (Int32 × zHp)) (a1 : Int32) (a2 : Int32) (a3 : Int32) (a4 : Int32) (a5 : Int32) (a6 : Int32) (b0 : Int32) (h : zHp) : Option (Int32 × zHp) :=
  if b0 = 0 then
    s_X5_latestOf_L99 k9 a1 a2 a3 a4 a5 a6 h
  else
    (zri h 25 80 a6).bind fun v2 =>
    if v2 = a1 then
      (zri h 27 80 a6).bind fun v4 =>
      if a2 < v4 then
        s_X5_latestOf_L99 k9 a1 a2 a3 a4 a5 a6 h
      else
        (zri h 27 80 a6).bind fun v6 =>
        if v6 < a5 then
          s_X5_latestOf_L99 k9 a1 a2 a3 a4 a5 a6 h
        else
          (zri h 27 80 a6).bind fun v8 =>
          s_X5_latestOf_L99 k9 a1 a2 a3 a6 v8 a6 h
    else
      s_X5_latestOf_L99 k9 a1 a2 a3 a4 a5 a6 h
def s_X5_latestOf_L44 (k9 : Int32 → Int32 → Int32 → Int32 → Int32 → Int32 → zHp → Option (Int32 × zHp)) (a1 : Int32) (a2 : Int32) (a3 : Int32) (a4 : Int32) (a5 : Int32) (a6 : Int32) (h : zHp) : Option (Int32 × zHp) :=
  s_X5_latestOf_L45 k9 a1 a2 a3 a4 a5 a6 (0 : Int32) h
def s_X5_latestOf_L9 : Nat → Int32 → Int32 → Int32 → Int32 → Int32 → Int32 → zHp → Option (Int32 × zHp)
  | 0, _, _, _, _, _, _, _ => none
  | f + 1, a1, a2, a3, a4, a5, a6, h =>
  if (h.1 24 8) ≤ a6 then
    some (a4, h)
  else
    (zri h 28 80 a6).bind fun v2 =>
    if a3 < v2 then
      s_X5_latestOf_L44 (s_X5_latestOf_L9 f) a1 a2 a3 a4 a5 a6 h
    else
      (zri h 29 80 a6).bind fun v4 =>
      if v4 ≤ a3 then
        s_X5_latestOf_L44 (s_X5_latestOf_L9 f) a1 a2 a3 a4 a5 a6 h
      else
        s_X5_latestOf_L45 (s_X5_latestOf_L9 f) a1 a2 a3 a4 a5 a6 (1 : Int32) h
def s_X5_latestOf (a1 : Int32) (a2 : Int32) (a3 : Int32) (h : zHp) : Option (Int32 × zHp) :=
  s_X5_latestOf_L9 zFU a1 a2 a3 (-1 : Int32) (0 : Int32) (0 : Int32) h
set_option maxRecDepth 100000 in
set_option maxHeartbeats 4000000 in
theorem k_X5_latestOf_L99 {l : Launch} {D : va_G} {cy : Nat → ClassId} {S0 d : Nat} {J : zJ} (q : (Int32 × zHp)) (hd : 0 ≤ d) (X : zOK l D cy S0 d RX5 cX5_latestOf 8 (yX5_latestOf.name == "<init>") 117 117 (some .int) (zRT 117 zRF (some (.int q.1)) q.2) J) {k9 : Int32 → Int32 → Int32 → Int32 → Int32 → Int32 → zHp → Option (Int32 × zHp)} (hk9 : ∀ (a1 : Int32) (a2 : Int32) (a3 : Int32) (a4 : Int32) (a5 : Int32) (a6 : Int32) (h : zHp), k9 a1 a2 a3 a4 a5 a6 h = some q → J 9 [(0, .ref 24), (1, .int a1), (2, .int a2), (3, .int a3), (4, .int a4), (5, .int a5), (6, .int a6)] [] 117 zRF h) : ∀ (a1 : Int32) (a2 : Int32) (a3 : Int32) (a4 : Int32) (a5 : Int32) (a6 : Int32) (h : zHp), s_X5_latestOf_L99 k9 a1 a2 a3 a4 a5 a6 h = some q → J 99 [(0, .ref 24), (1, .int a1), (2, .int a2), (3, .int a3), (4, .int a4), (5, .int a5), (6, .int a6)] [] 117 zRF h := by
  intro a1 a2 a3 a4 a5 a6 h e
  unfold s_X5_latestOf_L99 at e
  refine zv_iinc (k := 6) (v := a6 + (1 : Int32)) (lv' := [(6, .int (a6 + (1 : Int32))), (0, .ref 24), (1, .int a1), (2, .int a2), (3, .int a3), (4, .int a4), (5, .int a5)]) X dX5_latestOf_99 rfl rfl (Nat.le_of_ble_eq_true rfl) rfl ?_
  refine zv_goto (tgt := 9) X dX5_latestOf_102 (by decide) ?_
  exact zv_pick X [1, 2, 3, 4, 5, 6, 0] rfl (hk9 _ _ _ _ _ _ _ e)
set_option maxRecDepth 100000 in
set_option maxHeartbeats 4000000 in
theorem k_X5_latestOf_L45 {l : Launch} {D : va_G} {cy : Nat → ClassId} {S0 d : Nat} {J : zJ} (q : (Int32 × zHp)) (hd : 0 ≤ d) (X : zOK l D cy S0 d RX5 cX5_latestOf 8 (yX5_latestOf.name == "<init>") 117 117 (some .int) (zRT 117 zRF (some (.int q.1)) q.2) J) {k9 : Int32 → Int32 → Int32 → Int32 → Int32 → Int32 → zHp → Option (Int32 × zHp)} (hk9 : ∀ (a1 : Int32) (a2 : Int32) (a3 : Int32) (a4 : Int32) (a5 : Int32) (a6 : Int32) (h : zHp), k9 a1 a2 a3 a4 a5 a6 h = some q → J 9 [(0, .ref 24), (1, .int a1), (2, .int a2), (3, .int a3), (4, .int a4), (5, .int a5), (6, .int a6)] [] 117 zRF h) : ∀ (a1 : Int32) (a2 : Int32) (a3 : Int32) (a4 : Int32) (a5 : Int32) (a6 : Int32) (b0 : Int32) (h : zHp), s_X5_latestOf_L45 k9 a1 a2 a3 a4 a5 a6 b0 h = some q → J 45 [(0, .ref 24), (1, .int a1), (2, .int a2), (3, .int a3), (4, .int a4), (5, .int a5), (6, .int a6)] [.int b0] 117 zRF h := by
  intro a1 a2 a3 a4 a5 a6 b0 h e
  unfold s_X5_latestOf_L45 at e
  refine zv_istore (i := 7) (lv' := [(7, .int b0), (0, .ref 24), (1, .int a1), (2, .int a2), (3, .int a3), (4, .int a4), (5, .int a5), (6, .int a6)]) X dX5_latestOf_45 (Nat.le_of_ble_eq_true rfl) rfl ?_
  refine zv_iload X dX5_latestOf_47 rfl ?_
  refine zv_if_eq (tgt := 99) X dX5_latestOf_49 (by decide) (fun c1 => ?_) (fun c1 => ?_)
  · replace e := zit e c1
    exact zv_pick X [1, 2, 3, 4, 5, 6, 7] rfl (k_X5_latestOf_L99 q hd X hk9 _ _ _ _ _ _ _ e)
  · replace e := zif e c1
    refine zv_aload_n X dX5_latestOf_52 rfl rfl ?_
    refine zv_getR X zf_RX5_9 znt_a zk_24 zb_24 zr_24_1 dX5_latestOf_53 ?_
    refine zv_iload X dX5_latestOf_56 rfl ?_
    refine zb e (fun v2 gv2 e => ?_)
    refine zv_iald X zk_25 zl_25 zb_25 dX5_latestOf_58 gv2 ?_
    refine zv_iload_n X dX5_latestOf_59 rfl rfl ?_
    refine zv_icmp_ne (tgt := 99) X dX5_latestOf_60 (by decide) (fun c3 => ?_) (fun c3 => ?_)
    · replace e := zif e c3
      exact zv_pick X [1, 2, 3, 4, 5, 6, 7] rfl (k_X5_latestOf_L99 q hd X hk9 _ _ _ _ _ _ _ e)
    · replace e := zit e c3
      refine zv_aload_n X dX5_latestOf_63 rfl rfl ?_
      refine zv_getR X zf_RX5_18 znt_a zk_24 zb_24 zr_24_3 dX5_latestOf_64 ?_
      refine zv_iload X dX5_latestOf_67 rfl ?_
      refine zb e (fun v4 gv4 e => ?_)
      refine zv_iald X zk_27 zl_27 zb_27 dX5_latestOf_69 gv4 ?_
      refine zv_iload_n X dX5_latestOf_70 rfl rfl ?_
      refine zv_icmp_gt (tgt := 99) X dX5_latestOf_71 (by decide) (fun c5 => ?_) (fun c5 => ?_)
      · replace e := zit e c5
        exact zv_pick X [1, 2, 3, 4, 5, 6, 7] rfl (k_X5_latestOf_L99 q hd X hk9 _ _ _ _ _ _ _ e)
      · replace e := zif e c5
        refine zv_aload_n X dX5_latestOf_74 rfl rfl ?_
        refine zv_getR X zf_RX5_18 znt_a zk_24 zb_24 zr_24_3 dX5_latestOf_75 ?_
        refine zv_iload X dX5_latestOf_78 rfl ?_
        refine zb e (fun v6 gv6 e => ?_)
        refine zv_iald X zk_27 zl_27 zb_27 dX5_latestOf_80 gv6 ?_
        refine zv_iload X dX5_latestOf_81 rfl ?_
        refine zv_icmp_lt (tgt := 99) X dX5_latestOf_83 (by decide) (fun c7 => ?_) (fun c7 => ?_)
        · replace e := zit e c7
          exact zv_pick X [1, 2, 3, 4, 5, 6, 7] rfl (k_X5_latestOf_L99 q hd X hk9 _ _ _ _ _ _ _ e)
        · replace e := zif e c7
          refine zv_iload X dX5_latestOf_86 rfl ?_
          refine zv_istore (i := 4) (lv' := [(4, .int a6), (7, .int b0), (0, .ref 24), (1, .int a1), (2, .int a2), (3, .int a3), (5, .int a5), (6, .int a6)]) X dX5_latestOf_88 (Nat.le_of_ble_eq_true rfl) rfl ?_
          refine zv_aload_n X dX5_latestOf_90 rfl rfl ?_
          refine zv_getR X zf_RX5_18 znt_a zk_24 zb_24 zr_24_3 dX5_latestOf_91 ?_
          refine zv_iload X dX5_latestOf_94 rfl ?_
          refine zb e (fun v8 gv8 e => ?_)
          refine zv_iald X zk_27 zl_27 zb_27 dX5_latestOf_96 gv8 ?_
          refine zv_istore (i := 5) (lv' := [(5, .int v8), (4, .int a6), (7, .int b0), (0, .ref 24), (1, .int a1), (2, .int a2), (3, .int a3), (6, .int a6)]) X dX5_latestOf_97 (Nat.le_of_ble_eq_true rfl) rfl ?_
          exact zv_pick X [3, 4, 5, 6, 1, 0, 7] rfl (k_X5_latestOf_L99 q hd X hk9 _ _ _ _ _ _ _ e)
set_option maxRecDepth 100000 in
set_option maxHeartbeats 4000000 in
theorem k_X5_latestOf_L44 {l : Launch} {D : va_G} {cy : Nat → ClassId} {S0 d : Nat} {J : zJ} (q : (Int32 × zHp)) (hd : 0 ≤ d) (X : zOK l D cy S0 d RX5 cX5_latestOf 8 (yX5_latestOf.name == "<init>") 117 117 (some .int) (zRT 117 zRF (some (.int q.1)) q.2) J) {k9 : Int32 → Int32 → Int32 → Int32 → Int32 → Int32 → zHp → Option (Int32 × zHp)} (hk9 : ∀ (a1 : Int32) (a2 : Int32) (a3 : Int32) (a4 : Int32) (a5 : Int32) (a6 : Int32) (h : zHp), k9 a1 a2 a3 a4 a5 a6 h = some q → J 9 [(0, .ref 24), (1, .int a1), (2, .int a2), (3, .int a3), (4, .int a4), (5, .int a5), (6, .int a6)] [] 117 zRF h) : ∀ (a1 : Int32) (a2 : Int32) (a3 : Int32) (a4 : Int32) (a5 : Int32) (a6 : Int32) (h : zHp), s_X5_latestOf_L44 k9 a1 a2 a3 a4 a5 a6 h = some q → J 44 [(0, .ref 24), (1, .int a1), (2, .int a2), (3, .int a3), (4, .int a4), (5, .int a5), (6, .int a6)] [] 117 zRF h := by
  intro a1 a2 a3 a4 a5 a6 h e
  unfold s_X5_latestOf_L44 at e
  refine zv_iconst (v := (0 : Int32)) X dX5_latestOf_44 zic_0 ?_
  exact k_X5_latestOf_L45 q hd X hk9 _ _ _ _ _ _ _ _ e
set_option maxRecDepth 100000 in
set_option maxHeartbeats 4000000 in
theorem k_X5_latestOf_L9 {l : Launch} {D : va_G} {cy : Nat → ClassId} {S0 d : Nat} {J : zJ} (q : (Int32 × zHp)) (hd : 0 ≤ d) (X : zOK l D cy S0 d RX5 cX5_latestOf 8 (yX5_latestOf.name == "<init>") 117 117 (some .int) (zRT 117 zRF (some (.int q.1)) q.2) J) : ∀ (f : Nat) (a1 : Int32) (a2 : Int32) (a3 : Int32) (a4 : Int32) (a5 : Int32) (a6 : Int32) (h : zHp), s_X5_latestOf_L9 f a1 a2 a3 a4 a5 a6 h = some q → J 9 [(0, .ref 24), (1, .int a1), (2, .int a2), (3, .int a3), (4, .int a4), (5, .int a5), (6, .int a6)] [] 117 zRF h := by
  intro f
  induction f with
  | zero => intro _ _ _ _ _ _ h e; exact absurd e (fun z => by cases z)
  | succ f ih =>
    intro a1 a2 a3 a4 a5 a6 h e
    rw [s_X5_latestOf_L9] at e
    refine zv_iload X dX5_latestOf_9 rfl ?_
    refine zv_aload_n X dX5_latestOf_11 rfl rfl ?_
    refine zv_getI X zf_RX5_33 zk_24 zb_24 dX5_latestOf_12 ?_
    refine zv_icmp_ge (tgt := 105) X dX5_latestOf_15 (by decide) (fun c1 => ?_) (fun c1 => ?_)
    · replace e := zit e c1
      refine zv_iload X dX5_latestOf_105 rfl ?_
      exact zv_retI X e rfl dX5_latestOf_107
    · replace e := zif e c1
      refine zv_aload_n X dX5_latestOf_18 rfl rfl ?_
      refine zv_getR X zf_RX5_21 znt_a zk_24 zb_24 zr_24_4 dX5_latestOf_19 ?_
      refine zv_iload X dX5_latestOf_22 rfl ?_
      refine zb e (fun v2 gv2 e => ?_)
      refine zv_iald X zk_28 zl_28 zb_28 dX5_latestOf_24 gv2 ?_
      refine zv_iload_n X dX5_latestOf_25 rfl rfl ?_
      refine zv_icmp_gt (tgt := 44) X dX5_latestOf_26 (by decide) (fun c3 => ?_) (fun c3 => ?_)
      · replace e := zit e c3
        exact k_X5_latestOf_L44 q hd X ih _ _ _ _ _ _ _ e
      · replace e := zif e c3
        refine zv_aload_n X dX5_latestOf_29 rfl rfl ?_
        refine zv_getR X zf_RX5_24 znt_a zk_24 zb_24 zr_24_5 dX5_latestOf_30 ?_
        refine zv_iload X dX5_latestOf_33 rfl ?_
        refine zb e (fun v4 gv4 e => ?_)
        refine zv_iald X zk_29 zl_29 zb_29 dX5_latestOf_35 gv4 ?_
        refine zv_iload_n X dX5_latestOf_36 rfl rfl ?_
        refine zv_icmp_le (tgt := 44) X dX5_latestOf_37 (by decide) (fun c5 => ?_) (fun c5 => ?_)
        · replace e := zit e c5
          exact k_X5_latestOf_L44 q hd X ih _ _ _ _ _ _ _ e
        · replace e := zif e c5
          refine zv_iconst (v := (1 : Int32)) X dX5_latestOf_40 zic_1 ?_
          refine zv_goto (tgt := 45) X dX5_latestOf_41 (by decide) ?_
          exact k_X5_latestOf_L45 q hd X ih _ _ _ _ _ _ _ _ e
set_option maxRecDepth 100000 in
set_option maxHeartbeats 4000000 in
theorem k_X5_latestOf {l : Launch} {D : va_G} {cy : Nat → ClassId} {S0 d : Nat} (hd : 0 ≤ d) {a1 : Int32} {a2 : Int32} {a3 : Int32} {h : zHp} {q : (Int32 × zHp)} (e : s_X5_latestOf a1 a2 a3 h = some q) : zCT l D cy S0 d yX5_latestOf cX5_latestOf 8 (some .int) [.ref 24, .int a1, .int a2, .int a3] 117 zRF h (some (.int q.1)) 117 zRF q.2 := by
  unfold s_X5_latestOf at e
  refine zCT_of RX5 rfl zm_X5_latestOf (Nat.le_refl _) (Nat.le_of_ble_eq_true rfl) (fun J X => ?_)
  show J 0 [(0, .ref 24), (1, .int a1), (2, .int a2), (3, .int a3)] [] 117 zRF h
  refine zv_iconst (v := (-1 : Int32)) X dX5_latestOf_0 zic_m1 ?_
  refine zv_istore (i := 4) (lv' := [(4, .int (-1 : Int32)), (0, .ref 24), (1, .int a1), (2, .int a2), (3, .int a3)]) X dX5_latestOf_1 (Nat.le_of_ble_eq_true rfl) rfl ?_
  refine zv_iconst (v := (0 : Int32)) X dX5_latestOf_3 zic_0 ?_
  refine zv_istore (i := 5) (lv' := [(5, .int (0 : Int32)), (4, .int (-1 : Int32)), (0, .ref 24), (1, .int a1), (2, .int a2), (3, .int a3)]) X dX5_latestOf_4 (Nat.le_of_ble_eq_true rfl) rfl ?_
  refine zv_iconst (v := (0 : Int32)) X dX5_latestOf_6 zic_0 ?_
  refine zv_istore (i := 6) (lv' := [(6, .int (0 : Int32)), (5, .int (0 : Int32)), (4, .int (-1 : Int32)), (0, .ref 24), (1, .int a1), (2, .int a2), (3, .int a3)]) X dX5_latestOf_7 (Nat.le_of_ble_eq_true rfl) rfl ?_
  exact zv_pick X [3, 4, 5, 6, 2, 1, 0] rfl (k_X5_latestOf_L9 q hd X _ _ _ _ _ _ _ _ e)
-- X6_inForceOn
def s_X6_inForceOn_L49 (k7 : Int32 → Int32 → Int32 → Int32 → zHp → Option (Int32 × zHp)) (a1 : Int32) (a2 : Int32) (a3 : Int32) (a4 : Int32) (h : zHp) : Option (Int32 × zHp) :=
  k7 a1 a2 a3 (a4 + (1 : Int32)) h
def s_X6_inForceOn_L7 : Nat → Int32 → Int32 → Int32 → Int32 → zHp → Option (Int32 × zHp)
  | 0, _, _, _, _, _ => none
  | f + 1, a1, a2, a3, a4, h =>
  if (h.1 32 2) ≤ a4 then
    some (a2, h)
  else
    (zri h 33 10 a4).bind fun v2 =>
    if a1 < v2 then
      s_X6_inForceOn_L49 (s_X6_inForceOn_L7 f) a1 a2 a3 a4 h
    else
      (zri h 33 10 a4).bind fun v4 =>
      if v4 < a3 then
        s_X6_inForceOn_L49 (s_X6_inForceOn_L7 f) a1 a2 a3 a4 h
      else
        (zri h 33 10 a4).bind fun v6 =>
        s_X6_inForceOn_L49 (s_X6_inForceOn_L7 f) a1 a4 v6 a4 h
def s_X6_inForceOn (a1 : Int32) (h : zHp) : Option (Int32 × zHp) :=
  s_X6_inForceOn_L7 zFU a1 (-1 : Int32) (0 : Int32) (0 : Int32) h
set_option maxRecDepth 100000 in
set_option maxHeartbeats 4000000 in
theorem k_X6_inForceOn_L49 {l : Launch} {D : va_G} {cy : Nat → ClassId} {S0 d : Nat} {J : zJ} (q : (Int32 × zHp)) (hd : 0 ≤ d) (X : zOK l D cy S0 d RX6 cX6_inForceOn 5 (yX6_inForceOn.name == "<init>") 117 117 (some .int) (zRT 117 zRF (some (.int q.1)) q.2) J) {k7 : Int32 → Int32 → Int32 → Int32 → zHp → Option (Int32 × zHp)} (hk7 : ∀ (a1 : Int32) (a2 : Int32) (a3 : Int32) (a4 : Int32) (h : zHp), k7 a1 a2 a3 a4 h = some q → J 7 [(0, .ref 32), (1, .int a1), (2, .int a2), (3, .int a3), (4, .int a4)] [] 117 zRF h) : ∀ (a1 : Int32) (a2 : Int32) (a3 : Int32) (a4 : Int32) (h : zHp), s_X6_inForceOn_L49 k7 a1 a2 a3 a4 h = some q → J 49 [(0, .ref 32), (1, .int a1), (2, .int a2), (3, .int a3), (4, .int a4)] [] 117 zRF h := by
  intro a1 a2 a3 a4 h e
  unfold s_X6_inForceOn_L49 at e
  refine zv_iinc (k := 4) (v := a4 + (1 : Int32)) (lv' := [(4, .int (a4 + (1 : Int32))), (0, .ref 32), (1, .int a1), (2, .int a2), (3, .int a3)]) X dX6_inForceOn_49 rfl rfl (Nat.le_of_ble_eq_true rfl) rfl ?_
  refine zv_goto (tgt := 7) X dX6_inForceOn_52 (by decide) ?_
  exact zv_pick X [1, 2, 3, 4, 0] rfl (hk7 _ _ _ _ _ e)
set_option maxRecDepth 100000 in
set_option maxHeartbeats 4000000 in
theorem k_X6_inForceOn_L7 {l : Launch} {D : va_G} {cy : Nat → ClassId} {S0 d : Nat} {J : zJ} (q : (Int32 × zHp)) (hd : 0 ≤ d) (X : zOK l D cy S0 d RX6 cX6_inForceOn 5 (yX6_inForceOn.name == "<init>") 117 117 (some .int) (zRT 117 zRF (some (.int q.1)) q.2) J) : ∀ (f : Nat) (a1 : Int32) (a2 : Int32) (a3 : Int32) (a4 : Int32) (h : zHp), s_X6_inForceOn_L7 f a1 a2 a3 a4 h = some q → J 7 [(0, .ref 32), (1, .int a1), (2, .int a2), (3, .int a3), (4, .int a4)] [] 117 zRF h := by
  intro f
  induction f with
  | zero => intro _ _ _ _ h e; exact absurd e (fun z => by cases z)
  | succ f ih =>
    intro a1 a2 a3 a4 h e
    rw [s_X6_inForceOn_L7] at e
    refine zv_iload X dX6_inForceOn_7 rfl ?_
    refine zv_aload_n X dX6_inForceOn_9 rfl rfl ?_
    refine zv_getI X zf_RX6_18 zk_32 zb_32 dX6_inForceOn_10 ?_
    refine zv_icmp_ge (tgt := 55) X dX6_inForceOn_13 (by decide) (fun c1 => ?_) (fun c1 => ?_)
    · replace e := zit e c1
      refine zv_iload_n X dX6_inForceOn_55 rfl rfl ?_
      exact zv_retI X e rfl dX6_inForceOn_56
    · replace e := zif e c1
      refine zv_aload_n X dX6_inForceOn_16 rfl rfl ?_
      refine zv_getR X zf_RX6_9 znt_a zk_32 zb_32 zr_32_0 dX6_inForceOn_17 ?_
      refine zv_iload X dX6_inForceOn_20 rfl ?_
      refine zb e (fun v2 gv2 e => ?_)
      refine zv_iald X zk_33 zl_33 zb_33 dX6_inForceOn_22 gv2 ?_
      refine zv_iload_n X dX6_inForceOn_23 rfl rfl ?_
      refine zv_icmp_gt (tgt := 49) X dX6_inForceOn_24 (by decide) (fun c3 => ?_) (fun c3 => ?_)
      · replace e := zit e c3
        exact k_X6_inForceOn_L49 q hd X ih _ _ _ _ _ e
      · replace e := zif e c3
        refine zv_aload_n X dX6_inForceOn_27 rfl rfl ?_
        refine zv_getR X zf_RX6_9 znt_a zk_32 zb_32 zr_32_0 dX6_inForceOn_28 ?_
        refine zv_iload X dX6_inForceOn_31 rfl ?_
        refine zb e (fun v4 gv4 e => ?_)
        refine zv_iald X zk_33 zl_33 zb_33 dX6_inForceOn_33 gv4 ?_
        refine zv_iload_n X dX6_inForceOn_34 rfl rfl ?_
        refine zv_icmp_lt (tgt := 49) X dX6_inForceOn_35 (by decide) (fun c5 => ?_) (fun c5 => ?_)
        · replace e := zit e c5
          exact k_X6_inForceOn_L49 q hd X ih _ _ _ _ _ e
        · replace e := zif e c5
          refine zv_iload X dX6_inForceOn_38 rfl ?_
          refine zv_istore_n (i := 2) (lv' := [(2, .int a4), (0, .ref 32), (1, .int a1), (3, .int a3), (4, .int a4)]) X dX6_inForceOn_40 rfl (Nat.le_of_ble_eq_true rfl) rfl ?_
          refine zv_aload_n X dX6_inForceOn_41 rfl rfl ?_
          refine zv_getR X zf_RX6_9 znt_a zk_32 zb_32 zr_32_0 dX6_inForceOn_42 ?_
          refine zv_iload X dX6_inForceOn_45 rfl ?_
          refine zb e (fun v6 gv6 e => ?_)
          refine zv_iald X zk_33 zl_33 zb_33 dX6_inForceOn_47 gv6 ?_
          refine zv_istore_n (i := 3) (lv' := [(3, .int v6), (2, .int a4), (0, .ref 32), (1, .int a1), (4, .int a4)]) X dX6_inForceOn_48 rfl (Nat.le_of_ble_eq_true rfl) rfl ?_
          exact zv_pick X [2, 3, 1, 0, 4] rfl (k_X6_inForceOn_L49 q hd X ih _ _ _ _ _ e)
set_option maxRecDepth 100000 in
set_option maxHeartbeats 4000000 in
theorem k_X6_inForceOn {l : Launch} {D : va_G} {cy : Nat → ClassId} {S0 d : Nat} (hd : 0 ≤ d) {a1 : Int32} {h : zHp} {q : (Int32 × zHp)} (e : s_X6_inForceOn a1 h = some q) : zCT l D cy S0 d yX6_inForceOn cX6_inForceOn 5 (some .int) [.ref 32, .int a1] 117 zRF h (some (.int q.1)) 117 zRF q.2 := by
  unfold s_X6_inForceOn at e
  refine zCT_of RX6 rfl zm_X6_inForceOn (Nat.le_refl _) (Nat.le_of_ble_eq_true rfl) (fun J X => ?_)
  show J 0 [(0, .ref 32), (1, .int a1)] [] 117 zRF h
  refine zv_iconst (v := (-1 : Int32)) X dX6_inForceOn_0 zic_m1 ?_
  refine zv_istore_n (i := 2) (lv' := [(2, .int (-1 : Int32)), (0, .ref 32), (1, .int a1)]) X dX6_inForceOn_1 rfl (Nat.le_of_ble_eq_true rfl) rfl ?_
  refine zv_iconst (v := (0 : Int32)) X dX6_inForceOn_2 zic_0 ?_
  refine zv_istore_n (i := 3) (lv' := [(3, .int (0 : Int32)), (2, .int (-1 : Int32)), (0, .ref 32), (1, .int a1)]) X dX6_inForceOn_3 rfl (Nat.le_of_ble_eq_true rfl) rfl ?_
  refine zv_iconst (v := (0 : Int32)) X dX6_inForceOn_4 zic_0 ?_
  refine zv_istore (i := 4) (lv' := [(4, .int (0 : Int32)), (3, .int (0 : Int32)), (2, .int (-1 : Int32)), (0, .ref 32), (1, .int a1)]) X dX6_inForceOn_5 (Nat.le_of_ble_eq_true rfl) rfl ?_
  exact zv_pick X [3, 4, 2, 1, 0] rfl (k_X6_inForceOn_L7 q hd X _ _ _ _ _ _ e)

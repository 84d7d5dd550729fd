-- J7_fill_53178_3
def s_J7_fill_53178_3_L5 : Nat → Int32 → Int32 → Int32 → zHp → Option zHp
  | 0, _, _, _, _ => none
  | f + 1, a1, a2, a3, h =>
  if a3 ≤ a2 then
    some h
  else
    (zui h 3 4 a2 a1).bind fun h2 =>
    s_J7_fill_53178_3_L5 f a1 (a2 + (1 : Int32)) a3 h2
def s_J7_fill_53178_3 (a1 : Int32) (h : zHp) : Option zHp :=
  s_J7_fill_53178_3_L5 zFU a1 (0 : Int32) (4 : Int32) h
set_option maxRecDepth 100000 in
set_option maxHeartbeats 4000000 in
theorem k_J7_fill_53178_3_L5 {l : Launch} {D : va_G} {cy : Nat → ClassId} {S0 d : Nat} {N : Nat} {rf : zRf} (hkN : 3 < N) {J : zJ} (q : zHp) (hd : 0 ≤ d) (X : zOK l D cy S0 d RJ7 cJ7_fill_53178 4 (yJ7_fill_53178.name == "<init>") N N none (zRT N rf none q) J) : ∀ (f : Nat) (a1 : Int32) (a2 : Int32) (a3 : Int32) (h : zHp), s_J7_fill_53178_3_L5 f a1 a2 a3 h = some q → J 5 [(0, .ref 3), (1, .int a1), (2, .int a2), (3, .int a3)] [] N rf h := by
  intro f
  induction f with
  | zero => intro _ _ _ h e; exact absurd e (fun z => by cases z)
  | succ f ih =>
    intro a1 a2 a3 h e
    rw [s_J7_fill_53178_3_L5] at e
    refine zv_iload_n X dJ7_fill_53178_5 rfl rfl ?_
    refine zv_iload_n X dJ7_fill_53178_6 rfl rfl ?_
    refine zv_icmp_ge (tgt := 20) X dJ7_fill_53178_7 (by decide) (fun c1 => ?_) (fun c1 => ?_)
    · replace e := zit e c1
      exact zv_retV X e rfl dJ7_fill_53178_20
    · replace e := zif e c1
      refine zv_aload_n X dJ7_fill_53178_10 rfl rfl ?_
      refine zv_iload_n X dJ7_fill_53178_11 rfl rfl ?_
      refine zv_iload_n X dJ7_fill_53178_12 rfl rfl ?_
      refine zb e (fun h2 gh2 e => ?_)
      refine zv_iast X zk_3 zl_3 hkN dJ7_fill_53178_13 gh2 ?_
      refine zv_iinc (k := 2) (v := a2 + (1 : Int32)) (lv' := [(2, .int (a2 + (1 : Int32))), (0, .ref 3), (1, .int a1), (3, .int a3)]) X dJ7_fill_53178_14 rfl rfl (Nat.le_of_ble_eq_true rfl) rfl ?_
      refine zv_goto (tgt := 5) X dJ7_fill_53178_17 (by decide) ?_
      exact zv_pick X [1, 2, 0, 3] rfl (ih _ _ _ _ e)
set_option maxRecDepth 100000 in
set_option maxHeartbeats 4000000 in
theorem k_J7_fill_53178_3 {l : Launch} {D : va_G} {cy : Nat → ClassId} {S0 d : Nat} {N : Nat} {rf : zRf} (hkN : 3 < N) (hd : 0 ≤ d) {a1 : Int32} {h : zHp} {q : zHp} (e : s_J7_fill_53178_3 a1 h = some q) : zCT l D cy S0 d yJ7_fill_53178 cJ7_fill_53178 4 none [.ref 3, .int a1] N rf h none N rf q := by
  unfold s_J7_fill_53178_3 at e
  refine zCT_of RJ7 rfl zm_J7_fill_53178 (Nat.le_refl _) (Nat.le_of_ble_eq_true rfl) (fun J X => ?_)
  show J 0 [(0, .ref 3), (1, .int a1)] [] N rf h
  refine zv_iconst (v := (0 : Int32)) X dJ7_fill_53178_0 zic_0 ?_
  refine zv_istore_n (i := 2) (lv' := [(2, .int (0 : Int32)), (0, .ref 3), (1, .int a1)]) X dJ7_fill_53178_1 rfl (Nat.le_of_ble_eq_true rfl) rfl ?_
  refine zv_aload_n X dJ7_fill_53178_2 rfl rfl ?_
  refine zv_alenI (v := (4 : Int32)) X zk_3 zl_3 (by decide) hkN dJ7_fill_53178_3 ?_
  refine zv_istore_n (i := 3) (lv' := [(3, .int (4 : Int32)), (2, .int (0 : Int32)), (0, .ref 3), (1, .int a1)]) X dJ7_fill_53178_4 rfl (Nat.le_of_ble_eq_true rfl) rfl ?_
  exact zv_pick X [2, 3, 1, 0] rfl (k_J7_fill_53178_3_L5 hkN q hd X _ _ _ _ _ e)

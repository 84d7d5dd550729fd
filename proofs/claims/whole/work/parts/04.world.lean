/-! ===== the heap of this run, as numbers: ints and longs by cell and place; which cells there are, in the order in which they are made ===== -/
abbrev zHp : Type := (Nat → Nat → Int32) × (Nat → Nat → Int64)
abbrev zRf : Type := Nat → Nat → Option Nat
def zwi (h : zHp) (k i : Nat) (x : Int32) : zHp := (va_up h.1 k (upd (h.1 k) i x), h.2)
def zwl (h : zHp) (k i : Nat) (x : Int64) : zHp := (h.1, va_up h.2 k (vp_updL (h.2 k) i x))
def zwr (rf : zRf) (k i : Nat) (x : Option Nat) : zRf := va_up rf k (va_up (rf k) i x)
def zsh : List (Nat × Nat) := [(9, 16), (11, 8), (13, 50), (11, 4), (11, 20), (11, 5), (0, 7), (11, 40), (11, 40), (11, 40), (11, 40), (11, 40), (11, 5), (4, 11), (11, 20), (11, 20), (11, 20), (11, 20), (11, 20), (11, 20), (13, 20), (11, 20), (11, 160), (11, 160), (5, 10), (11, 80), (11, 80), (11, 80), (11, 80), (11, 80), (11, 3200), (11, 5), (6, 3), (11, 10), (11, 40), (8, 12), (11, 6), (11, 6), (11, 6), (11, 36), (11, 6), (11, 6), (11, 15), (11, 512), (11, 64), (11, 64), (3, 6), (11, 80), (12, 25), (12, 5), (11, 5), (2, 2), (1, 8), (11, 20), (11, 20), (11, 20), (11, 20), (11, 20), (2, 2), (7, 6), (11, 6), (11, 72), (12, 72), (11, 6), (11, 6), (2, 2), (2, 2), (10, 62), (11, 40), (11, 40), (11, 40), (11, 40), (11, 40), (11, 5), (11, 20), (11, 20), (11, 20), (11, 20), (11, 20), (13, 20), (11, 20), (13, 50), (11, 80), (11, 80), (11, 80), (11, 80), (11, 80), (11, 3200), (11, 8), (11, 5), (11, 10), (11, 40), (11, 4), (11, 6), (11, 36), (11, 7), (11, 6), (11, 6), (11, 7), (11, 15), (12, 25), (12, 5), (11, 5), (11, 4), (11, 4), (11, 5), (11, 20), (11, 160), (11, 160), (11, 20), (11, 20), (11, 20), (11, 20), (11, 6), (11, 72), (11, 6), (11, 6)]
def zkd (k : Nat) : Nat := (zsh.getD k (99, 0)).1
def zln (k : Nat) : Nat := (zsh.getD k (99, 0)).2
def zsz (n : Nat) : Nat := ((zsh.take n).map (fun q => q.2)).sum
theorem zsz_s (n : Nat) : zsz (n + 1) = zsz n + zln n := by
  unfold zsz zln
  rw [List.take_succ, List.map_append, List.sum_append]
  by_cases h : n < zsh.length
  · simp [List.getD, h]
  · have h2 : zsh[n]? = none := by simp; omega
    simp [List.getD, h2]
theorem zsz_le (a k : Nat) : zsz a ≤ zsz (a + k) := by
  induction k with
  | zero => exact Nat.le_refl _
  | succ k ih => rw [← Nat.add_assoc, zsz_s]; omega
theorem zsz_mono {a b : Nat} (h : a ≤ b) : zsz a ≤ zsz b := by
  obtain ⟨k, rfl⟩ := Nat.exists_eq_add_of_le h
  exact zsz_le a k
def zfty (ci : Nat) : Nat → FieldType := match ci with
  | 0 => tyX0
  | 1 => tyX1
  | 2 => tyX2
  | 3 => tyX3
  | 4 => tyX4
  | 5 => tyX5
  | 6 => tyX6
  | 7 => tyX7
  | 8 => tyX8
  | 9 => tyX9
  | 10 => tyX10
  | _ => fun _ => .int
def zT : List Cond := lw_tbl.filter goodWord
def zNest : List Cond := [(Jvm.Cond.methodLinkNest "DoorStars" (35 : Nat) ({ cls := "DoorStars$Kitchens", name := "<init>", desc := "()V" } : Jvm.MethodName) "DoorStars"), (Jvm.Cond.methodLinkNest "DoorStars" (51 : Nat) ({ cls := "DoorStars$Tables", name := "<init>", desc := "()V" } : Jvm.MethodName) "DoorStars"), (Jvm.Cond.methodLinkNest "DoorStars" (58 : Nat) ({ cls := "DoorStars$Week", name := "<init>", desc := "()V" } : Jvm.MethodName) "DoorStars"), (Jvm.Cond.methodLinkNest "DoorStars$Habits" (27 : Nat) ({ cls := "DoorStars$Fraction", name := "<init>", desc := "()V" } : Jvm.MethodName) "DoorStars"), (Jvm.Cond.methodLinkNest "DoorStars$Complaints" (29 : Nat) ({ cls := "DoorStars$Fraction", name := "<init>", desc := "()V" } : Jvm.MethodName) "DoorStars"), (Jvm.Cond.methodLinkNest "DoorStars$Trial" (30 : Nat) ({ cls := "DoorStars$Fraction", name := "<init>", desc := "()V" } : Jvm.MethodName) "DoorStars"), (Jvm.Cond.methodLinkNest "DoorStars" (90 : Nat) ({ cls := "DoorStars$Fraction", name := "<init>", desc := "()V" } : Jvm.MethodName) "DoorStars")]
theorem zin0 : ∀ w ∈ u_ws RX0 TX0 7, w ∈ zT := by decide +kernel
theorem zin1 : ∀ w ∈ u_ws RX1 TX1 8, w ∈ zT := by decide +kernel
theorem zin2 : ∀ w ∈ u_ws RX2 TX2 2, w ∈ zT := by decide +kernel
theorem zin3 : ∀ w ∈ u_ws RX3 TX3 6, w ∈ zT := by decide +kernel
theorem zin4 : ∀ w ∈ u_ws RX4 TX4 11, w ∈ zT := by decide +kernel
theorem zin5 : ∀ w ∈ u_ws RX5 TX5 10, w ∈ zT := by decide +kernel
theorem zin6 : ∀ w ∈ u_ws RX6 TX6 3, w ∈ zT := by decide +kernel
theorem zin7 : ∀ w ∈ u_ws RX7 TX7 6, w ∈ zT := by decide +kernel
theorem zin8 : ∀ w ∈ u_ws RX8 TX8 12, w ∈ zT := by decide +kernel
theorem zin9 : ∀ w ∈ u_ws RX9 TX9 16, w ∈ zT := by decide +kernel
theorem zin10 : ∀ w ∈ u_ws RX10 TX10 62, w ∈ zT := by decide +kernel
theorem zcls : ∀ (ci : Nat) (q : vw_C), vwCl[ci]? = some q → (∀ w ∈ u_ws q.1 q.2.1 q.2.2, w ∈ zT) ∧ (∀ k, k < q.2.2 → parseFieldDescriptor (q.2.1 k).2.2.1 = some (zfty ci k)) ∧ (∀ a, a < q.2.2 → ∀ b, b < q.2.2 → a ≠ b → (q.2.1 a).2.1 ≠ (q.2.1 b).2.1) := by
  intro ci q h
  match ci, h with
  | 0, h => cases h; exact ⟨zin0, tyX0_ok, nmX0⟩
  | 1, h => cases h; exact ⟨zin1, tyX1_ok, nmX1⟩
  | 2, h => cases h; exact ⟨zin2, tyX2_ok, nmX2⟩
  | 3, h => cases h; exact ⟨zin3, tyX3_ok, nmX3⟩
  | 4, h => cases h; exact ⟨zin4, tyX4_ok, nmX4⟩
  | 5, h => cases h; exact ⟨zin5, tyX5_ok, nmX5⟩
  | 6, h => cases h; exact ⟨zin6, tyX6_ok, nmX6⟩
  | 7, h => cases h; exact ⟨zin7, tyX7_ok, nmX7⟩
  | 8, h => cases h; exact ⟨zin8, tyX8_ok, nmX8⟩
  | 9, h => cases h; exact ⟨zin9, tyX9_ok, nmX9⟩
  | 10, h => cases h; exact ⟨zin10, tyX10_ok, nmX10⟩
  | n + 11, h => simp [vwCl] at h
theorem zcl_lt {ci : Nat} {q : vw_C} (h : vwCl[ci]? = some q) : ci < 11 := (List.getElem?_eq_some_iff.mp h).1
def zrv (S0 : Nat) : Value → Value
  | .ref k => .ref (S0 + k)
  | .retAddr b => .ref b
  | v => v
theorem zrv_cat (S0 : Nat) (v : Value) : (zrv S0 v).category = v.category := by cases v <;> rfl
def zrl (S0 : Nat) (q : Nat × Value) : Nat × Value := (q.1, zrv S0 q.2)
def zfv (S0 : Nat) (rf : zRf) (h : zHp) (k j : Nat) : Value := match zfty (zkd k) j with
  | .int => .int (h.1 k j)
  | .long => .long (h.2 k j)
  | _ => zrv S0 (va_rf (rf k j))
def zat (D : va_G) (cy : Nat → ClassId) (S0 : Nat) (rf : zRf) (h : zHp) (k : Nat) (H : Heap) : Prop :=
  (zkd k = 11 → H[S0 + k]? = some (arrV (cy 0) (zln k) (fun j => .int (h.1 k j)))) ∧
  (zkd k = 12 → H[S0 + k]? = some (arrV (cy 1) (zln k) (fun j => .long (h.2 k j)))) ∧
  (zkd k = 13 → H[S0 + k]? = some (arrV (cy 2) (zln k) (fun j => .int (h.1 k j)))) ∧
  (∀ q : vw_C, vwCl[zkd k]? = some q → t_OB (S0 + k) (D.1 (zkd k)) q.2.2 (D.2 (zkd k)) H (zfv S0 rf h k))
def zW (D : va_G) (cy : Nat → ClassId) (S0 N : Nat) (rf : zRf) (h : zHp) (H : Heap) : Prop := H.size = S0 + N ∧ ∀ k, k < N → zat D cy S0 rf h k H
theorem zat_congr {D : va_G} {cy : Nat → ClassId} {S0 : Nat} {rf rf' : zRf} {h h' : zHp} {k : Nat} {H H' : Heap} (a : zat D cy S0 rf h k H) (e1 : h'.1 k = h.1 k) (e2 : h'.2 k = h.2 k) (e3 : rf' k = rf k) (eH : H'[S0 + k]? = H[S0 + k]?) : zat D cy S0 rf' h' k H' := by
  obtain ⟨a1, a2, a3, a4⟩ := a
  have ez : zfv S0 rf' h' k = zfv S0 rf h k := by funext j; simp only [zfv, e1, e2, e3]
  refine ⟨fun z => ?_, fun z => ?_, fun z => ?_, fun q hq => ?_⟩
  · rw [eH, a1 z, e1]
  · rw [eH, a2 z, e2]
  · rw [eH, a3 z, e1]
  · rw [ez]; exact (a4 q hq).kept eH
def zK (D : va_G) (cy : Nat → ClassId) (s : State) : Prop :=
  (∀ (ci : Nat) (q : vw_C), vwCl[ci]? = some q → u_Kn s q.1 q.2.1 q.2.2 (D.1 ci) (D.2 ci)) ∧
  (ArrOfT s (cy 0) .int ∧ s.vm.findClass ("[" ++ FieldType.int.toString) = some (cy 0)) ∧
  (ArrOfT s (cy 1) .long ∧ s.vm.findClass ("[" ++ FieldType.long.toString) = some (cy 1)) ∧
  (ArrOfT s (cy 2) .boolean ∧ s.vm.findClass ("[" ++ FieldType.boolean.toString) = some (cy 2)) ∧
  (∀ w ∈ zNest, va_Nw w s)
theorem zNest_warm {s U : State} (hW : s.WarmedH U.vm) (h : ∀ w ∈ zNest, va_Nw w s) : ∀ w ∈ zNest, va_Nw w U := by
  intro w hw
  have h1 := h w hw
  unfold zNest at hw
  simp only [List.mem_cons, List.not_mem_nil, or_false] at hw
  rcases hw with rfl | rfl | rfl | rfl | rfl | rfl | rfl <;> exact va_Nw.warmM hW h1
theorem zNest_same {s U : State} (hW : s.vm = U.vm) (h : ∀ w ∈ zNest, va_Nw w s) : ∀ w ∈ zNest, va_Nw w U := by
  intro w hw
  have h1 := h w hw
  unfold zNest at hw
  simp only [List.mem_cons, List.not_mem_nil, or_false] at hw
  rcases hw with rfl | rfl | rfl | rfl | rfl | rfl | rfl <;> exact va_Nw.same rfl hW h1
theorem zK.warm {D : va_G} {cy : Nat → ClassId} {s U : State} (hW : s.WarmedH U.vm) (h : zK D cy s) : zK D cy U := by
  obtain ⟨h1, h2, h3, h4, h5⟩ := h
  have ha := hW.alike
  exact ⟨fun ci q hq => u_Kn_moved ha (h1 ci q hq), ⟨arrOfT_moved ha h2.1, by rw [ha.findClass]; exact h2.2⟩, ⟨arrOfT_moved ha h3.1, by rw [ha.findClass]; exact h3.2⟩, ⟨arrOfT_moved ha h4.1, by rw [ha.findClass]; exact h4.2⟩, zNest_warm hW h5⟩
theorem zK.same {D : va_G} {cy : Nat → ClassId} {s U : State} (hW : s.vm = U.vm) (h : zK D cy s) : zK D cy U := by
  obtain ⟨h1, h2, h3, h4, h5⟩ := h
  have ha : s.vm.Alike U.vm := hW ▸ Vm.Alike.refl s.vm
  exact ⟨fun ci q hq => u_Kn_moved ha (h1 ci q hq), ⟨arrOfT_moved ha h2.1, by rw [ha.findClass]; exact h2.2⟩, ⟨arrOfT_moved ha h3.1, by rw [ha.findClass]; exact h3.2⟩, ⟨arrOfT_moved ha h4.1, by rw [ha.findClass]; exact h4.2⟩, zNest_same hW h5⟩
/-! ===== contracts and the judgement ===== -/
def zrm (d mc ms : Nat) : Room := { frames := d, cells := mc, slots := ms, locals := 64 * d }
def zPc (D : va_G) (cy : Nat → ClassId) (S0 N : Nat) (rf : zRf) (h : zHp) (as : List Value) : Array Value → State → Prop := fun v U => v = (as.map (zrv S0)).toArray ∧ zW D cy S0 N rf h U.heap ∧ zK D cy U
def zQc (D : va_G) (cy : Nat → ClassId) (S0 N : Nat) (rf : zRf) (h : zHp) (res : Option Value) : Array Value → State → Outcome → State → Prop := fun _ st o t => o = .returned (res.map (zrv S0)) ∧ zW D cy S0 N rf h t.heap ∧ va_F (fun q => S0 ≤ q) st t
def zMY (y : MethodName) (cc : ByteArray) (maxL : Nat) (ret : Option FieldType) (n : Nat) : Prop := plainFor y = true ∧ Cond.code y cc maxL ret ∈ zT ∧ Cond.initialized y.cls ∈ zT ∧ y.cls ≠ "java/lang/invoke/MethodHandle" ∧ y.cls ≠ "java/lang/invoke/VarHandle" ∧ (parseMethodDescriptor y.desc).map (fun d => d.parameters.length) = some n ∧ maxL ≤ 40
def zCT (l : Launch) (D : va_G) (cy : Nat → ClassId) (S0 d : Nat) (y : MethodName) (cc : ByteArray) (maxL : Nat) (ret : Option FieldType) (as : List Value) (N : Nat) (rf : zRf) (h : zHp) (res : Option Value) (N' : Nat) (rf' : zRf) (h' : zHp) : Prop :=
  N ≤ N' ∧ Met l y (Cond.code y cc maxL ret :: zT) (zrm d (N' - N) (zsz N' - zsz N)) (zPc D cy S0 N rf h as) (zQc D cy S0 N' rf' h' res) (N' - N) (zsz N' - zsz N) (fun q => S0 ≤ q)
abbrev zJ : Type := Nat → List (Nat × Value) → List Value → Nat → zRf → zHp → Prop
def zV (p : Program) (l : Launch) (e : Env) (R : Room) (s : State) (m : MethodId) (args : Array Value) (below : List Frame) (meth : Method) (c : Code) (nL N0 S0 : Nat) (D : va_G) (cy : Nat → ClassId) (Q : State → Prop) : zJ := fun pc lv st N rf h =>
  N0 ≤ N → ∀ (H : Heap) (locs : List Loc) (ls : Array Slot), zW D cy S0 N rf h H → va_S (fun q => S0 ≤ q) s.heap H locs → lv_has ls nL (lv.map (zrl S0)) → W p l e R s m args below meth c H locs (N - N0) (zsz N - zsz N0) Q (F0 m pc ls (st.map (zrv S0)))
def zrt (cc : ByteArray) (ret : Option FieldType) (pc : Nat) (v : Option Value) : Prop := match v with
  | none => ret = none ∧ decode cc pc = .ok (.return_, 1)
  | some (.int x) => decode cc pc = .ok (.ireturn, 1) ∧ (ret = some .int ∨ (ret = some .boolean ∧ narrow .boolean (.int x) = .int x))
  | some (.long _) => decode cc pc = .ok (.lreturn, 1) ∧ ret = some .long
  | some (.ref _) => decode cc pc = .ok (.areturn, 1) ∧ ∃ n, ret = some (.object n)
  | _ => False
def zOK (l : Launch) (D : va_G) (cy : Nat → ClassId) (S0 d : Nat) (own : String) (cc : ByteArray) (nL : Nat) (ini : Bool) (N0 N' : Nat) (ret : Option FieldType) (RT : Option Value → Nat → zRf → zHp → Prop) (J : zJ) : Prop :=
  ∃ (p : Program) (e : Env) (R : Room) (s : State) (m : MethodId) (args : Array Value) (below : List Frame) (meth : Method) (c : Code) (Q : State → Prop), J = zV p l e R s m args below meth c nL N0 S0 D cy Q ∧
    p.tables.exec = Jvm.exec ∧ c.code = cc ∧ c.maxLocals = nL ∧ s.vm.findClass own = some m.cls ∧ (∀ w ∈ zT, w.before args s = true) ∧ zK D cy s ∧ (ini = true → meth.name = "<init>") ∧ d ≤ R.frames ∧ 64 * d ≤ R.locals ∧ N' - N0 ≤ R.cells ∧ zsz N' - zsz N0 ≤ R.slots ∧
    (∀ (pc : Nat) (ls : Array Slot) (H : Heap) (locs : List Loc) (v : Option Value) (N : Nat) (rf : zRf) (h : zHp), RT v N rf h → zW D cy S0 N rf h H → va_S (fun q => S0 ≤ q) s.heap H locs → zrt cc ret pc v → W p l e R s m args below meth c H locs (N - N0) (zsz N - zsz N0) Q (F0 m pc ls (v.toList.map (zrv S0))))
theorem zargs_eq (S0 : Nat) : ∀ (as : List Value) (i : Nat), lv_args i (as.map (zrv S0)) = (lv_args i as).map (zrl S0)
  | [], i => rfl
  | v :: vs, i => by
    simp only [List.map_cons, lv_args, zrv_cat, zrl]
    rw [zargs_eq S0 vs]
theorem zsl_len (S0 : Nat) : ∀ (as : List Value), (lg_sl (as.map (zrv S0))).length = (as.map (fun v => v.category)).sum
  | [] => rfl
  | v :: vs => by
    have ih := zsl_len S0 vs
    simp only [lg_sl, List.map_cons, List.flatMap_cons, List.length_append, List.sum_cons] at ih ⊢
    rw [ih, zrv_cat]
    rcases lv_cat v with h | h <;> simp [h]
theorem zMet_ofW {l : Launch} {y : MethodName} {ws ws' : List Cond} {rm : Room} {Pc : Array Value → State → Prop} {Qc : Array Value → State → Outcome → State → Prop} {mc ms : Nat} {free : Addr → Prop} {cc : ByteArray} {maxL : Nat} {ret : Option FieldType}
    (hy : plainFor y = true) (hw : ws = Cond.code y cc maxL ret :: ws')
    (body : ∀ p e s m args below meth c s₁, BodyLoose p l y (headSpec ws rm) cc maxL ret e s m args below meth c s₁ → c.maxLocals = maxL → Pc args s →
      W p l e (headSpec ws rm).room s m args below meth c s.heap [] 0 0 (MQ below Qc args s mc ms free) (entryFrame m args maxL)) : Met l y ws rm Pc Qc mc ms free := by
  refine MetFree.of_bodySF (code := cc) (maxLocals := maxL) (ret := ret) hy ?_ ?_
  · intro args s m h hn
    obtain ⟨meth, c, h1, h2, h3, h4, h5, h6, -, -⟩ := Cond.code_spec hn (atoms_spec (ws := ws) h _ (by rw [hw]; exact List.mem_cons_self))
    exact ⟨meth, c, h1, h2, h3, h4, h5, h6⟩
  · intro p e s m args below meth c s₁ B hml hP _
    have hh0 : s₁.heap = s.heap := by rw [B.state]; rfl
    obtain ⟨t, a1, o, b1, b2, b3⟩ := body p e s m args below meth c s₁ B hml hP s₁ hh0 (Stand.of_body B)
    exact ⟨t, o, a1, b1, b2, ⟨b3.1, b3.2⟩⟩
set_option maxHeartbeats 4000000 in
theorem zCT_of {l : Launch} {D : va_G} {cy : Nat → ClassId} {S0 d : Nat} {y : MethodName} {cc : ByteArray} {maxL : Nat} {ret : Option FieldType} {n : Nat} {as : List Value} {N : Nat} {rf : zRf} {h : zHp} {res : Option Value} {N' : Nat} {rf' : zRf} {h' : zHp} (own : String) (hown0 : y.cls = own) (my : zMY y cc maxL ret n) (hN : N ≤ N') (has : (as.map (fun v => v.category)).sum ≤ maxL)
    (body : ∀ J : zJ, zOK l D cy S0 d own cc maxL (y.name == "<init>") N N' ret (fun v n r g => v = res ∧ n = N' ∧ r = rf' ∧ g = h') J → J 0 (lv_args 0 as) [] N rf h) : zCT l D cy S0 d y cc maxL ret as N rf h res N' rf' h' := by
  subst hown0
  refine ⟨hN, ?_⟩
  refine zMet_ofW (cc := cc) (maxL := maxL) (ret := ret) my.1 rfl ?_
  intro p e s m args below meth c s₁ B hml hv
  obtain ⟨rfl, hW, hK⟩ := hv
  have hx := B.exec
  have hb := B.bytes
  have hr := B.returns
  have hts0 := atoms_spec (ws := Cond.code y cc maxL ret :: zT) B.pre
  have hts : ∀ w ∈ zT, w.before (as.map (zrv S0)).toArray s = true := fun w hw => hts0 w (List.mem_cons_of_mem _ hw)
  have hown : s.vm.findClass y.cls = some m.cls := findClass_of_methodNamed B.named
  have hlocks := B.notSynchronized
  have hnm : meth.name = y.name := (name_of_methodNamed B.named B.method).1
  have hl := lv_entry (as.map (zrv S0)) (n := maxL) (by rw [zsl_len]; exact has)
  rw [lg_entry_eq]
  generalize (lg_sl (as.map (zrv S0)) ++ List.replicate (maxL - (lg_sl (as.map (zrv S0))).length) Slot.unset).toArray = ls at hl ⊢
  rw [zargs_eq] at hl
  have key := body _ ⟨p, e, (headSpec (Cond.code y cc maxL ret :: zT) (zrm d (N' - N) (zsz N' - zsz N))).room, s, m, _, below, meth, c, MQ below (zQc D cy S0 N' rf' h' res) (as.map (zrv S0)).toArray s (N' - N) (zsz N' - zsz N) (fun q => S0 ≤ q), rfl, hx, hb, hml, hown, hts, hK, (fun hi => by rw [hnm]; simpa using hi), Nat.le_refl _, Nat.le_refl _, Nat.le_refl _, Nat.le_refl _, ?_⟩
  · have := key (Nat.le_refl N) s.heap [] ls hW va_S.rf hl
    rw [Nat.sub_self, Nat.sub_self] at this
    exact this
  · intro pc ls H locs v N1 rf1 h1 hrt hW1 hS1 hz
    obtain ⟨rfl, rfl, rfl, rfl⟩ := hrt
    match v, hz with
    | none, hz => exact W.vret hx hb (hr.trans hz.1) (fun t ht _ => ⟨rfl, by rw [ht]; exact hW1, hS1.F ht⟩) hS1.2.2 hz.2
    | some (.int x), hz =>
      rcases hz.2 with e1 | ⟨e1, e2⟩
      · exact W.iret hx hb (hr.trans e1) (fun t ht _ => ⟨rfl, by rw [ht]; exact hW1, hS1.F ht⟩) hS1.2.2 hz.1
      · exact W.zret hx hb (hr.trans e1) e2 (fun t ht _ => ⟨rfl, by rw [ht]; exact hW1, hS1.F ht⟩) hS1.2.2 hz.1
    | some (.long x), hz => exact W.lret hx hb (hr.trans hz.2) (fun t ht _ => ⟨rfl, by rw [ht]; exact hW1, hS1.F ht⟩) hS1.2.2 hz.1
    | some (.ref x), hz =>
      obtain ⟨e0, n, e1⟩ := hz
      exact W.aret hx hb (hr.trans e1) (Or.inl ⟨n, rfl⟩) (Or.inr ⟨_, rfl⟩) (fun t ht _ => ⟨rfl, by rw [ht]; exact hW1, hS1.F ht⟩) hS1.2.2 e0

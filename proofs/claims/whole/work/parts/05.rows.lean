section ZR
variable {l : Launch} {D : va_G} {cy : Nat → ClassId} {S0 d : Nat} {own : String} {cc : ByteArray} {nL : Nat} {ini : Bool} {N0 N' : Nat} {ret : Option FieldType} {RT : Option Value → Nat → zRf → zHp → Prop} {J : zJ} {pc : Nat} {lv : List (Nat × Value)} {st : List Value} {N : Nat} {rf : zRf} {h : zHp}
def zlk : List (Nat × Value) → Nat → Option Value
  | [], _ => none
  | q :: r, i => bif Nat.beq q.1 i then some q.2 else zlk r i
theorem zlk_mem : ∀ {lv : List (Nat × Value)} {i : Nat} {v : Value}, zlk lv i = some v → (i, v) ∈ lv
  | [], i, v, h => by cases h
  | q :: r, i, v, h => by
    unfold zlk at h
    cases hb : Nat.beq q.1 i with
    | true =>
      rw [hb] at h
      simp only [cond_true, Option.some.injEq] at h
      have e := Nat.eq_of_beq_eq_true hb
      subst e; subst h
      exact List.mem_cons_self
    | false =>
      rw [hb] at h
      simp only [cond_false] at h
      exact List.mem_cons_of_mem _ (zlk_mem h)
theorem zlk_at {S0 nL : Nat} {ls : Array Slot} {lv : List (Nat × Value)} {i : Nat} {v : Value} (hl : lv_has ls nL (lv.map (zrl S0))) (h : zlk lv i = some v) : ls[i]? = some (.val (zrv S0 v)) :=
  hl.2.2 (i, zrv S0 v) (List.mem_map.mpr ⟨(i, v), zlk_mem h, rfl⟩)
def zs1 (lv : List (Nat × Value)) (i : Nat) (v : Value) : List (Nat × Value) := (i, v) :: lv.filter (fun q => !(q.1 == i) && !(q.1 + 1 == i && q.2.category == 2))
def zs2 (lv : List (Nat × Value)) (i : Nat) (v : Value) : List (Nat × Value) := (i, v) :: lv.filter (fun q => !(q.1 == i) && (!(q.1 == i + 1) && !(q.1 + 1 == i && q.2.category == 2)))
theorem zs1_map (S0 : Nat) (lv : List (Nat × Value)) (i : Nat) (v : Value) : (i, zrv S0 v) :: (lv.map (zrl S0)).filter (fun q => !(q.1 == i) && !(q.1 + 1 == i && q.2.category == 2)) = (zs1 lv i v).map (zrl S0) := by
  unfold zs1
  rw [List.map_cons, List.filter_map]
  congr 2
  congr 1
  funext q
  simp [zrl, zrv_cat, Function.comp]
theorem zs2_map (S0 : Nat) (lv : List (Nat × Value)) (i : Nat) (v : Value) : (i, zrv S0 v) :: (lv.map (zrl S0)).filter (fun q => !(q.1 == i) && (!(q.1 == i + 1) && !(q.1 + 1 == i && q.2.category == 2))) = (zs2 lv i v).map (zrl S0) := by
  unfold zs2
  rw [List.map_cons, List.filter_map]
  congr 2
  congr 1
  funext q
  simp [zrl, zrv_cat, Function.comp]
/-- fewer locals -/
theorem zv_sub (X : zOK l D cy S0 d own cc nL ini N0 N' ret RT J) {lv' : List (Nat × Value)} (hs : ∀ q ∈ lv', q ∈ lv) (K : J pc lv' st N rf h) : J pc lv st N rf h := by
  obtain ⟨p, e, R, s, m, args, below, meth, c, Q, rfl, hx, hb, hml, hown, hts, hK, hini, hfr, hlo, hce, hsl, hret⟩ := X
  intro hN0 H locs ls hW hS hl
  exact K hN0 H locs ls hW hS ⟨hl.1, hl.2.1, fun q hq => by
    obtain ⟨q0, h1, rfl⟩ := List.mem_map.mp hq
    exact hl.2.2 _ (List.mem_map.mpr ⟨q0, hs q0 h1, rfl⟩)⟩
def zpk (lv lv' : List (Nat × Value)) (ks : List Nat) : Prop := ks.map (fun k => lv[k]?) = lv'.map some
theorem zv_pick (X : zOK l D cy S0 d own cc nL ini N0 N' ret RT J) {lv' : List (Nat × Value)} (ks : List Nat) (hs : ks.map (fun k => lv[k]?) = lv'.map some) (K : J pc lv' st N rf h) : J pc lv st N rf h := by
  refine zv_sub X (fun q hq => ?_) K
  have h1 : some q ∈ lv'.map some := List.mem_map.mpr ⟨q, hq, rfl⟩
  rw [← hs] at h1
  obtain ⟨k, -, hk⟩ := List.mem_map.mp h1
  exact List.mem_of_getElem? hk
theorem zv_iconst (X : zOK l D cy S0 d own cc nL ini N0 N' ret RT J) {n : Int} {v : Int32} (dg : decode cc pc = .ok (.iconst n, 1)) (hv : Int32.ofInt n = v) (K : J (pc + 1) lv (.int v :: st) N rf h) : J pc lv (st) N rf h := by
  obtain ⟨p, e, R, s, m, args, below, meth, c, Q, rfl, hx, hb, hml, hown, hts, hK, hini, hfr, hlo, hce, hsl, hret⟩ := X
  intro hN0 H locs ls hW hS hl
  exact lv_iconst hx hb dg hv (K hN0 H locs ls hW hS hl)
theorem zv_bipush (X : zOK l D cy S0 d own cc nL ini N0 N' ret RT J) {n : Int} {v : Int32} (dg : decode cc pc = .ok (.bipush n, 2)) (hv : (Int8.ofInt n).toInt32 = v) (K : J (pc + 2) lv (.int v :: st) N rf h) : J pc lv (st) N rf h := by
  obtain ⟨p, e, R, s, m, args, below, meth, c, Q, rfl, hx, hb, hml, hown, hts, hK, hini, hfr, hlo, hce, hsl, hret⟩ := X
  intro hN0 H locs ls hW hS hl
  exact lv_bipush hx hb dg hv (K hN0 H locs ls hW hS hl)
theorem zv_sipush (X : zOK l D cy S0 d own cc nL ini N0 N' ret RT J) {n : Int} {v : Int32} (dg : decode cc pc = .ok (.sipush n, 3)) (hv : (Int16.ofInt n).toInt32 = v) (K : J (pc + 3) lv (.int v :: st) N rf h) : J pc lv (st) N rf h := by
  obtain ⟨p, e, R, s, m, args, below, meth, c, Q, rfl, hx, hb, hml, hown, hts, hK, hini, hfr, hlo, hce, hsl, hret⟩ := X
  intro hN0 H locs ls hW hS hl
  exact lv_sipush hx hb dg hv (K hN0 H locs ls hW hS hl)
theorem zv_lconst (X : zOK l D cy S0 d own cc nL ini N0 N' ret RT J) {n : Fin 2} {v : Int64} (dg : decode cc pc = .ok (.lconst n, 1)) (hv : Int64.ofNat (n : Nat) = v) (K : J (pc + 1) lv (.long v :: st) N rf h) : J pc lv (st) N rf h := by
  obtain ⟨p, e, R, s, m, args, below, meth, c, Q, rfl, hx, hb, hml, hown, hts, hK, hini, hfr, hlo, hce, hsl, hret⟩ := X
  intro hN0 H locs ls hW hS hl
  exact lv_lconst hx hb dg hv (K hN0 H locs ls hW hS hl)
theorem zv_ldc (X : zOK l D cy S0 d own cc nL ini N0 N' ret RT J) {idx : Nat} {v : Int32} (hm : Cond.constant own idx v ∈ zT) (dg : decode cc pc = .ok (.ldc idx, 2)) (K : J (pc + 2) lv (.int v :: st) N rf h) : J pc lv (st) N rf h := by
  obtain ⟨p, e, R, s, m, args, below, meth, c, Q, rfl, hx, hb, hml, hown, hts, hK, hini, hfr, hlo, hce, hsl, hret⟩ := X
  intro hN0 H locs ls hW hS hl
  exact lv_ldc hx hb hown (hts _ hm) dg (K hN0 H locs ls hW hS hl)
theorem zv_ldcw (X : zOK l D cy S0 d own cc nL ini N0 N' ret RT J) {idx : Nat} {v : Int32} (hm : Cond.constant own idx v ∈ zT) (dg : decode cc pc = .ok (.ldc_w idx, 3)) (K : J (pc + 3) lv (.int v :: st) N rf h) : J pc lv (st) N rf h := by
  obtain ⟨p, e, R, s, m, args, below, meth, c, Q, rfl, hx, hb, hml, hown, hts, hK, hini, hfr, hlo, hce, hsl, hret⟩ := X
  intro hN0 H locs ls hW hS hl
  exact lv_ldcw hx hb hown (hts _ hm) dg (K hN0 H locs ls hW hS hl)
theorem zv_ldc2 (X : zOK l D cy S0 d own cc nL ini N0 N' ret RT J) {idx : Nat} {v : Int64} (hm : Cond.constantLong own idx v ∈ zT) (dg : decode cc pc = .ok (.ldc2_w idx, 3)) (K : J (pc + 3) lv (.long v :: st) N rf h) : J pc lv (st) N rf h := by
  obtain ⟨p, e, R, s, m, args, below, meth, c, Q, rfl, hx, hb, hml, hown, hts, hK, hini, hfr, hlo, hce, hsl, hret⟩ := X
  intro hN0 H locs ls hW hS hl
  exact lv_ldc2 hx hb hown (hts _ hm) dg (K hN0 H locs ls hW hS hl)
theorem zv_iload_n (X : zOK l D cy S0 d own cc nL ini N0 N' ret RT J) {k : Fin 4} {i : Nat} {x : Int32} (dg : decode cc pc = .ok (.iload_n k, 1)) (hi : (k : Nat) = i) (hlk : zlk lv i = some (.int x)) (K : J (pc + 1) lv (.int x :: st) N rf h) : J pc lv (st) N rf h := by
  obtain ⟨p, e, R, s, m, args, below, meth, c, Q, rfl, hx, hb, hml, hown, hts, hK, hini, hfr, hlo, hce, hsl, hret⟩ := X
  intro hN0 H locs ls hW hS hl
  exact lv_iload_n hx hb dg hi (zlk_at hl hlk) (K hN0 H locs ls hW hS hl)
theorem zv_iload (X : zOK l D cy S0 d own cc nL ini N0 N' ret RT J) {i : Nat} {x : Int32} (dg : decode cc pc = .ok (.iload i, 2)) (hlk : zlk lv i = some (.int x)) (K : J (pc + 2) lv (.int x :: st) N rf h) : J pc lv (st) N rf h := by
  obtain ⟨p, e, R, s, m, args, below, meth, c, Q, rfl, hx, hb, hml, hown, hts, hK, hini, hfr, hlo, hce, hsl, hret⟩ := X
  intro hN0 H locs ls hW hS hl
  exact lv_iload hx hb dg (zlk_at hl hlk) (K hN0 H locs ls hW hS hl)
theorem zv_lload_n (X : zOK l D cy S0 d own cc nL ini N0 N' ret RT J) {k : Fin 4} {i : Nat} {x : Int64} (dg : decode cc pc = .ok (.lload_n k, 1)) (hi : (k : Nat) = i) (hlk : zlk lv i = some (.long x)) (K : J (pc + 1) lv (.long x :: st) N rf h) : J pc lv (st) N rf h := by
  obtain ⟨p, e, R, s, m, args, below, meth, c, Q, rfl, hx, hb, hml, hown, hts, hK, hini, hfr, hlo, hce, hsl, hret⟩ := X
  intro hN0 H locs ls hW hS hl
  exact lv_lload_n hx hb dg hi (zlk_at hl hlk) (K hN0 H locs ls hW hS hl)
theorem zv_lload (X : zOK l D cy S0 d own cc nL ini N0 N' ret RT J) {i : Nat} {x : Int64} (dg : decode cc pc = .ok (.lload i, 2)) (hlk : zlk lv i = some (.long x)) (K : J (pc + 2) lv (.long x :: st) N rf h) : J pc lv (st) N rf h := by
  obtain ⟨p, e, R, s, m, args, below, meth, c, Q, rfl, hx, hb, hml, hown, hts, hK, hini, hfr, hlo, hce, hsl, hret⟩ := X
  intro hN0 H locs ls hW hS hl
  exact lv_lload hx hb dg (zlk_at hl hlk) (K hN0 H locs ls hW hS hl)
theorem zv_aload_n (X : zOK l D cy S0 d own cc nL ini N0 N' ret RT J) {k : Fin 4} {i : Nat} {x : Nat} (dg : decode cc pc = .ok (.aload_n k, 1)) (hi : (k : Nat) = i) (hlk : zlk lv i = some (.ref x)) (K : J (pc + 1) lv (.ref x :: st) N rf h) : J pc lv (st) N rf h := by
  obtain ⟨p, e, R, s, m, args, below, meth, c, Q, rfl, hx, hb, hml, hown, hts, hK, hini, hfr, hlo, hce, hsl, hret⟩ := X
  intro hN0 H locs ls hW hS hl
  exact lv_aload_n hx hb dg hi (zlk_at hl hlk) (K hN0 H locs ls hW hS hl)
theorem zv_xload_n (X : zOK l D cy S0 d own cc nL ini N0 N' ret RT J) {k : Fin 4} {i : Nat} {x : Nat} (dg : decode cc pc = .ok (.aload_n k, 1)) (hi : (k : Nat) = i) (hlk : zlk lv i = some (.retAddr x)) (K : J (pc + 1) lv (.retAddr x :: st) N rf h) : J pc lv (st) N rf h := by
  obtain ⟨p, e, R, s, m, args, below, meth, c, Q, rfl, hx, hb, hml, hown, hts, hK, hini, hfr, hlo, hce, hsl, hret⟩ := X
  intro hN0 H locs ls hW hS hl
  exact lv_aload_n hx hb dg hi (zlk_at hl hlk) (K hN0 H locs ls hW hS hl)
theorem zv_istore_n (X : zOK l D cy S0 d own cc nL ini N0 N' ret RT J) {k : Fin 4} {i : Nat} {x : Int32} {lv' : List (Nat × Value)} (dg : decode cc pc = .ok (.istore_n k, 1)) (hi : (k : Nat) = i) (hn : i < nL) (hlv : zs1 lv i (.int x) = lv') (K : J (pc + 1) lv' st N rf h) : J pc lv (.int x :: st) N rf h := by
  obtain ⟨p, e, R, s, m, args, below, meth, c, Q, rfl, hx, hb, hml, hown, hts, hK, hini, hfr, hlo, hce, hsl, hret⟩ := X
  subst hlv
  intro hN0 H locs ls hW hS hl
  exact lv_istore_n hx hb dg hi hl hn (zs1_map S0 lv i (.int x)) (fun ls' hl' => K hN0 H locs ls' hW hS hl')
theorem zv_istore (X : zOK l D cy S0 d own cc nL ini N0 N' ret RT J) {i : Nat} {x : Int32} {lv' : List (Nat × Value)} (dg : decode cc pc = .ok (.istore i, 2)) (hn : i < nL) (hlv : zs1 lv i (.int x) = lv') (K : J (pc + 2) lv' st N rf h) : J pc lv (.int x :: st) N rf h := by
  obtain ⟨p, e, R, s, m, args, below, meth, c, Q, rfl, hx, hb, hml, hown, hts, hK, hini, hfr, hlo, hce, hsl, hret⟩ := X
  subst hlv
  intro hN0 H locs ls hW hS hl
  exact lv_istore hx hb dg hl hn (zs1_map S0 lv i (.int x)) (fun ls' hl' => K hN0 H locs ls' hW hS hl')
theorem zv_astore_n (X : zOK l D cy S0 d own cc nL ini N0 N' ret RT J) {k : Fin 4} {i : Nat} {x : Nat} {lv' : List (Nat × Value)} (dg : decode cc pc = .ok (.astore_n k, 1)) (hi : (k : Nat) = i) (hn : i < nL) (hlv : zs1 lv i (.ref x) = lv') (K : J (pc + 1) lv' st N rf h) : J pc lv (.ref x :: st) N rf h := by
  obtain ⟨p, e, R, s, m, args, below, meth, c, Q, rfl, hx, hb, hml, hown, hts, hK, hini, hfr, hlo, hce, hsl, hret⟩ := X
  subst hlv
  intro hN0 H locs ls hW hS hl
  exact lv_astore_n hx hb dg hi hl hn (zs1_map S0 lv i (.ref x)) (fun ls' hl' => K hN0 H locs ls' hW hS hl')
theorem zv_lstore_n (X : zOK l D cy S0 d own cc nL ini N0 N' ret RT J) {k : Fin 4} {i : Nat} {x : Int64} {lv' : List (Nat × Value)} (dg : decode cc pc = .ok (.lstore_n k, 1)) (hi : (k : Nat) = i) (hn : i + 1 < nL) (hlv : zs2 lv i (.long x) = lv') (K : J (pc + 1) lv' st N rf h) : J pc lv (.long x :: st) N rf h := by
  obtain ⟨p, e, R, s, m, args, below, meth, c, Q, rfl, hx, hb, hml, hown, hts, hK, hini, hfr, hlo, hce, hsl, hret⟩ := X
  subst hlv
  intro hN0 H locs ls hW hS hl
  exact lv_lstore_n hx hb dg hi hl hn (zs2_map S0 lv i (.long x)) (fun ls' hl' => K hN0 H locs ls' hW hS hl')
theorem zv_lstore (X : zOK l D cy S0 d own cc nL ini N0 N' ret RT J) {i : Nat} {x : Int64} {lv' : List (Nat × Value)} (dg : decode cc pc = .ok (.lstore i, 2)) (hn : i + 1 < nL) (hlv : zs2 lv i (.long x) = lv') (K : J (pc + 2) lv' st N rf h) : J pc lv (.long x :: st) N rf h := by
  obtain ⟨p, e, R, s, m, args, below, meth, c, Q, rfl, hx, hb, hml, hown, hts, hK, hini, hfr, hlo, hce, hsl, hret⟩ := X
  subst hlv
  intro hN0 H locs ls hW hS hl
  exact lv_lstore hx hb dg hl hn (zs2_map S0 lv i (.long x)) (fun ls' hl' => K hN0 H locs ls' hW hS hl')
theorem zv_iinc (X : zOK l D cy S0 d own cc nL ini N0 N' ret RT J) {i k : Nat} {n : Int} {x v : Int32} {lv' : List (Nat × Value)} (dg : decode cc pc = .ok (.iinc i n, 3)) (hk : lv[k]? = some (i, .int x)) (hv : x + Int32.ofInt n = v) (hn : i < nL) (hlv : zs1 lv i (.int v) = lv') (K : J (pc + 3) lv' st N rf h) : J pc lv st N rf h := by
  obtain ⟨p, e, R, s, m, args, below, meth, c, Q, rfl, hx, hb, hml, hown, hts, hK, hini, hfr, hlo, hce, hsl, hret⟩ := X
  subst hlv
  intro hN0 H locs ls hW hS hl
  exact lv_iinc hx hb dg hl (k := k) (by rw [List.getElem?_map, hk]; rfl) hv hn (zs1_map S0 lv i (.int v)) (fun ls' hl' => K hN0 H locs ls' hW hS hl')
theorem zv_iadd (X : zOK l D cy S0 d own cc nL ini N0 N' ret RT J) {x y : Int32} (dg : decode cc pc = .ok (.iadd, 1)) (K : J (pc + 1) lv (.int (x + y) :: st) N rf h) : J pc lv (.int y :: .int x :: st) N rf h := by
  obtain ⟨p, e, R, s, m, args, below, meth, c, Q, rfl, hx, hb, hml, hown, hts, hK, hini, hfr, hlo, hce, hsl, hret⟩ := X
  intro hN0 H locs ls hW hS hl
  exact lv_iadd hx hb dg (K hN0 H locs ls hW hS hl)
theorem zv_isub (X : zOK l D cy S0 d own cc nL ini N0 N' ret RT J) {x y : Int32} (dg : decode cc pc = .ok (.isub, 1)) (K : J (pc + 1) lv (.int (x - y) :: st) N rf h) : J pc lv (.int y :: .int x :: st) N rf h := by
  obtain ⟨p, e, R, s, m, args, below, meth, c, Q, rfl, hx, hb, hml, hown, hts, hK, hini, hfr, hlo, hce, hsl, hret⟩ := X
  intro hN0 H locs ls hW hS hl
  exact lv_isub hx hb dg (K hN0 H locs ls hW hS hl)
theorem zv_imul (X : zOK l D cy S0 d own cc nL ini N0 N' ret RT J) {x y : Int32} (dg : decode cc pc = .ok (.imul, 1)) (K : J (pc + 1) lv (.int (x * y) :: st) N rf h) : J pc lv (.int y :: .int x :: st) N rf h := by
  obtain ⟨p, e, R, s, m, args, below, meth, c, Q, rfl, hx, hb, hml, hown, hts, hK, hini, hfr, hlo, hce, hsl, hret⟩ := X
  intro hN0 H locs ls hW hS hl
  exact lv_imul hx hb dg (K hN0 H locs ls hW hS hl)
theorem zv_iand (X : zOK l D cy S0 d own cc nL ini N0 N' ret RT J) {x y : Int32} (dg : decode cc pc = .ok (.iand, 1)) (K : J (pc + 1) lv (.int (x &&& y) :: st) N rf h) : J pc lv (.int y :: .int x :: st) N rf h := by
  obtain ⟨p, e, R, s, m, args, below, meth, c, Q, rfl, hx, hb, hml, hown, hts, hK, hini, hfr, hlo, hce, hsl, hret⟩ := X
  intro hN0 H locs ls hW hS hl
  exact lv_iand hx hb dg (K hN0 H locs ls hW hS hl)
theorem zv_ior (X : zOK l D cy S0 d own cc nL ini N0 N' ret RT J) {x y : Int32} (dg : decode cc pc = .ok (.ior, 1)) (K : J (pc + 1) lv (.int (x ||| y) :: st) N rf h) : J pc lv (.int y :: .int x :: st) N rf h := by
  obtain ⟨p, e, R, s, m, args, below, meth, c, Q, rfl, hx, hb, hml, hown, hts, hK, hini, hfr, hlo, hce, hsl, hret⟩ := X
  intro hN0 H locs ls hW hS hl
  exact lv_ior hx hb dg (K hN0 H locs ls hW hS hl)
theorem zv_ixor (X : zOK l D cy S0 d own cc nL ini N0 N' ret RT J) {x y : Int32} (dg : decode cc pc = .ok (.ixor, 1)) (K : J (pc + 1) lv (.int (x ^^^ y) :: st) N rf h) : J pc lv (.int y :: .int x :: st) N rf h := by
  obtain ⟨p, e, R, s, m, args, below, meth, c, Q, rfl, hx, hb, hml, hown, hts, hK, hini, hfr, hlo, hce, hsl, hret⟩ := X
  intro hN0 H locs ls hW hS hl
  exact lv_ixor hx hb dg (K hN0 H locs ls hW hS hl)
theorem zv_ishl (X : zOK l D cy S0 d own cc nL ini N0 N' ret RT J) {x y : Int32} (dg : decode cc pc = .ok (.ishl, 1)) (K : J (pc + 1) lv (.int (x <<< (y &&& 31)) :: st) N rf h) : J pc lv (.int y :: .int x :: st) N rf h := by
  obtain ⟨p, e, R, s, m, args, below, meth, c, Q, rfl, hx, hb, hml, hown, hts, hK, hini, hfr, hlo, hce, hsl, hret⟩ := X
  intro hN0 H locs ls hW hS hl
  exact lv_ishl hx hb dg (K hN0 H locs ls hW hS hl)
theorem zv_ishr (X : zOK l D cy S0 d own cc nL ini N0 N' ret RT J) {x y : Int32} (dg : decode cc pc = .ok (.ishr, 1)) (K : J (pc + 1) lv (.int (x >>> (y &&& 31)) :: st) N rf h) : J pc lv (.int y :: .int x :: st) N rf h := by
  obtain ⟨p, e, R, s, m, args, below, meth, c, Q, rfl, hx, hb, hml, hown, hts, hK, hini, hfr, hlo, hce, hsl, hret⟩ := X
  intro hN0 H locs ls hW hS hl
  exact lv_ishr hx hb dg (K hN0 H locs ls hW hS hl)
theorem zv_iushr (X : zOK l D cy S0 d own cc nL ini N0 N' ret RT J) {x y : Int32} (dg : decode cc pc = .ok (.iushr, 1)) (K : J (pc + 1) lv (.int (x.toUInt32 >>> (y.toUInt32 &&& Int32.toUInt32 31)).toInt32 :: st) N rf h) : J pc lv (.int y :: .int x :: st) N rf h := by
  obtain ⟨p, e, R, s, m, args, below, meth, c, Q, rfl, hx, hb, hml, hown, hts, hK, hini, hfr, hlo, hce, hsl, hret⟩ := X
  intro hN0 H locs ls hW hS hl
  exact lv_iushr hx hb dg rfl (K hN0 H locs ls hW hS hl)
theorem zv_ineg (X : zOK l D cy S0 d own cc nL ini N0 N' ret RT J) {x : Int32} (dg : decode cc pc = .ok (.ineg, 1)) (K : J (pc + 1) lv (.int (-x) :: st) N rf h) : J pc lv (.int x :: st) N rf h := by
  obtain ⟨p, e, R, s, m, args, below, meth, c, Q, rfl, hx, hb, hml, hown, hts, hK, hini, hfr, hlo, hce, hsl, hret⟩ := X
  intro hN0 H locs ls hW hS hl
  exact lv_ineg hx hb dg (K hN0 H locs ls hW hS hl)
theorem zv_ladd (X : zOK l D cy S0 d own cc nL ini N0 N' ret RT J) {x y : Int64} (dg : decode cc pc = .ok (.ladd, 1)) (K : J (pc + 1) lv (.long (x + y) :: st) N rf h) : J pc lv (.long y :: .long x :: st) N rf h := by
  obtain ⟨p, e, R, s, m, args, below, meth, c, Q, rfl, hx, hb, hml, hown, hts, hK, hini, hfr, hlo, hce, hsl, hret⟩ := X
  intro hN0 H locs ls hW hS hl
  exact lv_ladd hx hb dg (K hN0 H locs ls hW hS hl)
theorem zv_lsub (X : zOK l D cy S0 d own cc nL ini N0 N' ret RT J) {x y : Int64} (dg : decode cc pc = .ok (.lsub, 1)) (K : J (pc + 1) lv (.long (x - y) :: st) N rf h) : J pc lv (.long y :: .long x :: st) N rf h := by
  obtain ⟨p, e, R, s, m, args, below, meth, c, Q, rfl, hx, hb, hml, hown, hts, hK, hini, hfr, hlo, hce, hsl, hret⟩ := X
  intro hN0 H locs ls hW hS hl
  exact lv_lsub hx hb dg (K hN0 H locs ls hW hS hl)
theorem zv_lmul (X : zOK l D cy S0 d own cc nL ini N0 N' ret RT J) {x y : Int64} (dg : decode cc pc = .ok (.lmul, 1)) (K : J (pc + 1) lv (.long (x * y) :: st) N rf h) : J pc lv (.long y :: .long x :: st) N rf h := by
  obtain ⟨p, e, R, s, m, args, below, meth, c, Q, rfl, hx, hb, hml, hown, hts, hK, hini, hfr, hlo, hce, hsl, hret⟩ := X
  intro hN0 H locs ls hW hS hl
  exact lv_lmul hx hb dg (K hN0 H locs ls hW hS hl)
theorem zv_lneg (X : zOK l D cy S0 d own cc nL ini N0 N' ret RT J) {x : Int64} (dg : decode cc pc = .ok (.lneg, 1)) (K : J (pc + 1) lv (.long (-x) :: st) N rf h) : J pc lv (.long x :: st) N rf h := by
  obtain ⟨p, e, R, s, m, args, below, meth, c, Q, rfl, hx, hb, hml, hown, hts, hK, hini, hfr, hlo, hce, hsl, hret⟩ := X
  intro hN0 H locs ls hW hS hl
  exact lv_lneg hx hb dg (K hN0 H locs ls hW hS hl)
theorem zv_i2l (X : zOK l D cy S0 d own cc nL ini N0 N' ret RT J) {x : Int32} (dg : decode cc pc = .ok (.i2l, 1)) (K : J (pc + 1) lv (.long x.toInt64 :: st) N rf h) : J pc lv (.int x :: st) N rf h := by
  obtain ⟨p, e, R, s, m, args, below, meth, c, Q, rfl, hx, hb, hml, hown, hts, hK, hini, hfr, hlo, hce, hsl, hret⟩ := X
  intro hN0 H locs ls hW hS hl
  exact lv_i2l hx hb dg rfl (K hN0 H locs ls hW hS hl)
theorem zv_l2i (X : zOK l D cy S0 d own cc nL ini N0 N' ret RT J) {x : Int64} (dg : decode cc pc = .ok (.l2i, 1)) (K : J (pc + 1) lv (.int x.toInt32 :: st) N rf h) : J pc lv (.long x :: st) N rf h := by
  obtain ⟨p, e, R, s, m, args, below, meth, c, Q, rfl, hx, hb, hml, hown, hts, hK, hini, hfr, hlo, hce, hsl, hret⟩ := X
  intro hN0 H locs ls hW hS hl
  exact lv_l2i hx hb dg rfl (K hN0 H locs ls hW hS hl)
def zdiv (x y : Int32) : Option Int32 := if y = 0 then none else some (x / y)
def zrem (x y : Int32) : Option Int32 := if y = 0 then none else some (x - x / y * y)
def zldiv (x y : Int64) : Option Int64 := if y = 0 then none else some (x / y)
def zlrem (x y : Int64) : Option Int64 := if y = 0 then none else some (x - x / y * y)
def zri (h : zHp) (k n : Nat) (i : Int32) : Option Int32 := if i < 0 ∨ n ≤ i.toNatClampNeg then none else some (h.1 k i.toNatClampNeg)
def zrj (h : zHp) (k n : Nat) (i : Int32) : Option Int64 := if i < 0 ∨ n ≤ i.toNatClampNeg then none else some (h.2 k i.toNatClampNeg)
def zui (h : zHp) (k n : Nat) (i : Int32) (x : Int32) : Option zHp := if i < 0 ∨ n ≤ i.toNatClampNeg then none else some (zwi h k i.toNatClampNeg x)
def zuj (h : zHp) (k n : Nat) (i : Int32) (x : Int64) : Option zHp := if i < 0 ∨ n ≤ i.toNatClampNeg then none else some (zwl h k i.toNatClampNeg x)
theorem zv_idiv (X : zOK l D cy S0 d own cc nL ini N0 N' ret RT J) {x y r : Int32} (dg : decode cc pc = .ok (.idiv, 1)) (hr : zdiv x y = some r) (K : J (pc + 1) lv (.int r :: st) N rf h) : J pc lv (.int y :: .int x :: st) N rf h := by
  obtain ⟨p, e, R, s, m, args, below, meth, c, Q, rfl, hx, hb, hml, hown, hts, hK, hini, hfr, hlo, hce, hsl, hret⟩ := X
  unfold zdiv at hr
  split at hr
  · cases hr
  · next hne =>
    cases hr
    intro hN0 H locs ls hW hS hl
    exact lv_idiv hx hb dg hne (K hN0 H locs ls hW hS hl)
theorem zv_irem (X : zOK l D cy S0 d own cc nL ini N0 N' ret RT J) {x y r : Int32} (dg : decode cc pc = .ok (.irem, 1)) (hr : zrem x y = some r) (K : J (pc + 1) lv (.int r :: st) N rf h) : J pc lv (.int y :: .int x :: st) N rf h := by
  obtain ⟨p, e, R, s, m, args, below, meth, c, Q, rfl, hx, hb, hml, hown, hts, hK, hini, hfr, hlo, hce, hsl, hret⟩ := X
  unfold zrem at hr
  split at hr
  · cases hr
  · next hne =>
    cases hr
    intro hN0 H locs ls hW hS hl
    exact lv_irem hx hb dg hne (K hN0 H locs ls hW hS hl)
theorem zv_ldiv (X : zOK l D cy S0 d own cc nL ini N0 N' ret RT J) {x y r : Int64} (dg : decode cc pc = .ok (.ldiv, 1)) (hr : zldiv x y = some r) (K : J (pc + 1) lv (.long r :: st) N rf h) : J pc lv (.long y :: .long x :: st) N rf h := by
  obtain ⟨p, e, R, s, m, args, below, meth, c, Q, rfl, hx, hb, hml, hown, hts, hK, hini, hfr, hlo, hce, hsl, hret⟩ := X
  unfold zldiv at hr
  split at hr
  · cases hr
  · next hne =>
    cases hr
    intro hN0 H locs ls hW hS hl
    exact lv_ldiv hx hb dg hne (K hN0 H locs ls hW hS hl)
theorem zv_lrem (X : zOK l D cy S0 d own cc nL ini N0 N' ret RT J) {x y r : Int64} (dg : decode cc pc = .ok (.lrem, 1)) (hr : zlrem x y = some r) (K : J (pc + 1) lv (.long r :: st) N rf h) : J pc lv (.long y :: .long x :: st) N rf h := by
  obtain ⟨p, e, R, s, m, args, below, meth, c, Q, rfl, hx, hb, hml, hown, hts, hK, hini, hfr, hlo, hce, hsl, hret⟩ := X
  unfold zlrem at hr
  split at hr
  · cases hr
  · next hne =>
    cases hr
    intro hN0 H locs ls hW hS hl
    exact lv_lrem hx hb dg hne (K hN0 H locs ls hW hS hl)
theorem zv_dup_i (X : zOK l D cy S0 d own cc nL ini N0 N' ret RT J) {x : Int32} (dg : decode cc pc = .ok (.dup, 1)) (K : J (pc + 1) lv (.int x :: .int x :: st) N rf h) : J pc lv (.int x :: st) N rf h := by
  obtain ⟨p, e, R, s, m, args, below, meth, c, Q, rfl, hx, hb, hml, hown, hts, hK, hini, hfr, hlo, hce, hsl, hret⟩ := X
  intro hN0 H locs ls hW hS hl
  exact lv_dup hx hb dg rfl (K hN0 H locs ls hW hS hl)
theorem zv_dup_r (X : zOK l D cy S0 d own cc nL ini N0 N' ret RT J) {x : Nat} (dg : decode cc pc = .ok (.dup, 1)) (K : J (pc + 1) lv (.ref x :: .ref x :: st) N rf h) : J pc lv (.ref x :: st) N rf h := by
  obtain ⟨p, e, R, s, m, args, below, meth, c, Q, rfl, hx, hb, hml, hown, hts, hK, hini, hfr, hlo, hce, hsl, hret⟩ := X
  intro hN0 H locs ls hW hS hl
  exact lv_dup hx hb dg rfl (K hN0 H locs ls hW hS hl)
theorem zv_pop_i (X : zOK l D cy S0 d own cc nL ini N0 N' ret RT J) {x : Int32} (dg : decode cc pc = .ok (.pop, 1)) (K : J (pc + 1) lv (st) N rf h) : J pc lv (.int x :: st) N rf h := by
  obtain ⟨p, e, R, s, m, args, below, meth, c, Q, rfl, hx, hb, hml, hown, hts, hK, hini, hfr, hlo, hce, hsl, hret⟩ := X
  intro hN0 H locs ls hW hS hl
  exact lv_pop hx hb dg rfl (K hN0 H locs ls hW hS hl)
theorem zv_dup_x1 (X : zOK l D cy S0 d own cc nL ini N0 N' ret RT J) {x : Int32} {y : Nat} (dg : decode cc pc = .ok (.dup_x1, 1)) (K : J (pc + 1) lv (.int x :: .ref y :: .int x :: st) N rf h) : J pc lv (.int x :: .ref y :: st) N rf h := by
  obtain ⟨p, e, R, s, m, args, below, meth, c, Q, rfl, hx, hb, hml, hown, hts, hK, hini, hfr, hlo, hce, hsl, hret⟩ := X
  intro hN0 H locs ls hW hS hl
  exact lv_dup_x1 hx hb dg rfl rfl (K hN0 H locs ls hW hS hl)
theorem zv_dup_x2 (X : zOK l D cy S0 d own cc nL ini N0 N' ret RT J) {x y : Int32} {z : Nat} (dg : decode cc pc = .ok (.dup_x2, 1)) (K : J (pc + 1) lv (.int x :: .int y :: .ref z :: .int x :: st) N rf h) : J pc lv (.int x :: .int y :: .ref z :: st) N rf h := by
  obtain ⟨p, e, R, s, m, args, below, meth, c, Q, rfl, hx, hb, hml, hown, hts, hK, hini, hfr, hlo, hce, hsl, hret⟩ := X
  intro hN0 H locs ls hW hS hl
  exact lv_dup_x2 hx hb dg rfl rfl rfl (K hN0 H locs ls hW hS hl)
theorem zv_dup2 (X : zOK l D cy S0 d own cc nL ini N0 N' ret RT J) {x : Int32} {y : Nat} (dg : decode cc pc = .ok (.dup2, 1)) (K : J (pc + 1) lv (.int x :: .ref y :: .int x :: .ref y :: st) N rf h) : J pc lv (.int x :: .ref y :: st) N rf h := by
  obtain ⟨p, e, R, s, m, args, below, meth, c, Q, rfl, hx, hb, hml, hown, hts, hK, hini, hfr, hlo, hce, hsl, hret⟩ := X
  intro hN0 H locs ls hW hS hl
  exact lv_dup2_11 hx hb dg rfl rfl (K hN0 H locs ls hW hS hl)
theorem zv_if_eq (X : zOK l D cy S0 d own cc nL ini N0 N' ret RT J) {x : Int32} {off : Int} {tgt : Nat} (dg : decode cc pc = .ok (.ifCond .eq off, 3)) (ht : (pc : Int) + off = (tgt : Int)) (KT : x = 0 → J tgt lv st N rf h) (KF : ¬ x = 0 → J (pc + 3) lv st N rf h) : J pc lv (.int x :: st) N rf h := by
  obtain ⟨p, e, R, s, m, args, below, meth, c, Q, rfl, hx, hb, hml, hown, hts, hK, hini, hfr, hlo, hce, hsl, hret⟩ := X
  intro hN0 H locs ls hW hS hl
  exact lv_if_eq hx hb dg ht (fun q => KT q hN0 H locs ls hW hS hl) (fun q => KF q hN0 H locs ls hW hS hl)
theorem zv_icmp_eq (X : zOK l D cy S0 d own cc nL ini N0 N' ret RT J) {x y : Int32} {off : Int} {tgt : Nat} (dg : decode cc pc = .ok (.if_icmp .eq off, 3)) (ht : (pc : Int) + off = (tgt : Int)) (KT : x = y → J tgt lv st N rf h) (KF : ¬ x = y → J (pc + 3) lv st N rf h) : J pc lv (.int y :: .int x :: st) N rf h := by
  obtain ⟨p, e, R, s, m, args, below, meth, c, Q, rfl, hx, hb, hml, hown, hts, hK, hini, hfr, hlo, hce, hsl, hret⟩ := X
  intro hN0 H locs ls hW hS hl
  exact lv_icmp_eq hx hb dg ht (fun q => KT q hN0 H locs ls hW hS hl) (fun q => KF q hN0 H locs ls hW hS hl)
theorem zv_lcmp_eq (X : zOK l D cy S0 d own cc nL ini N0 N' ret RT J) {x y : Int64} {off : Int} {tgt pc1 pc2 : Nat} (dg0 : decode cc pc = .ok (.lcmp, 1)) (h1 : pc + 1 = pc1) (dg : decode cc pc1 = .ok (.ifCond .eq off, 3)) (ht : (pc1 : Int) + off = (tgt : Int)) (h2 : pc1 + 3 = pc2) (KT : x = y → J tgt lv st N rf h) (KF : ¬ x = y → J pc2 lv st N rf h) : J pc lv (.long y :: .long x :: st) N rf h := by
  obtain ⟨p, e, R, s, m, args, below, meth, c, Q, rfl, hx, hb, hml, hown, hts, hK, hini, hfr, hlo, hce, hsl, hret⟩ := X
  subst h1; subst h2
  intro hN0 H locs ls hW hS hl
  refine W.lcmp hx hb dg0 ?_
  exact lv_if_eq hx hb dg ht (fun q => KT ((lg_cmp_eq x y).mp q) hN0 H locs ls hW hS hl) (fun q => KF (fun z => q ((lg_cmp_eq x y).mpr z)) hN0 H locs ls hW hS hl)
theorem zv_if_ne (X : zOK l D cy S0 d own cc nL ini N0 N' ret RT J) {x : Int32} {off : Int} {tgt : Nat} (dg : decode cc pc = .ok (.ifCond .ne off, 3)) (ht : (pc : Int) + off = (tgt : Int)) (KT : ¬ x = 0 → J tgt lv st N rf h) (KF : x = 0 → J (pc + 3) lv st N rf h) : J pc lv (.int x :: st) N rf h := by
  obtain ⟨p, e, R, s, m, args, below, meth, c, Q, rfl, hx, hb, hml, hown, hts, hK, hini, hfr, hlo, hce, hsl, hret⟩ := X
  intro hN0 H locs ls hW hS hl
  exact lv_if_ne hx hb dg ht (fun q => KT q hN0 H locs ls hW hS hl) (fun q => KF q hN0 H locs ls hW hS hl)
theorem zv_icmp_ne (X : zOK l D cy S0 d own cc nL ini N0 N' ret RT J) {x y : Int32} {off : Int} {tgt : Nat} (dg : decode cc pc = .ok (.if_icmp .ne off, 3)) (ht : (pc : Int) + off = (tgt : Int)) (KT : ¬ x = y → J tgt lv st N rf h) (KF : x = y → J (pc + 3) lv st N rf h) : J pc lv (.int y :: .int x :: st) N rf h := by
  obtain ⟨p, e, R, s, m, args, below, meth, c, Q, rfl, hx, hb, hml, hown, hts, hK, hini, hfr, hlo, hce, hsl, hret⟩ := X
  intro hN0 H locs ls hW hS hl
  exact lv_icmp_ne hx hb dg ht (fun q => KT q hN0 H locs ls hW hS hl) (fun q => KF q hN0 H locs ls hW hS hl)
theorem zv_lcmp_ne (X : zOK l D cy S0 d own cc nL ini N0 N' ret RT J) {x y : Int64} {off : Int} {tgt pc1 pc2 : Nat} (dg0 : decode cc pc = .ok (.lcmp, 1)) (h1 : pc + 1 = pc1) (dg : decode cc pc1 = .ok (.ifCond .ne off, 3)) (ht : (pc1 : Int) + off = (tgt : Int)) (h2 : pc1 + 3 = pc2) (KT : ¬ x = y → J tgt lv st N rf h) (KF : x = y → J pc2 lv st N rf h) : J pc lv (.long y :: .long x :: st) N rf h := by
  obtain ⟨p, e, R, s, m, args, below, meth, c, Q, rfl, hx, hb, hml, hown, hts, hK, hini, hfr, hlo, hce, hsl, hret⟩ := X
  subst h1; subst h2
  intro hN0 H locs ls hW hS hl
  refine W.lcmp hx hb dg0 ?_
  exact lv_if_ne hx hb dg ht (fun q => KT (fun z => q ((lg_cmp_eq x y).mpr z)) hN0 H locs ls hW hS hl) (fun q => KF ((lg_cmp_eq x y).mp q) hN0 H locs ls hW hS hl)
theorem zv_if_lt (X : zOK l D cy S0 d own cc nL ini N0 N' ret RT J) {x : Int32} {off : Int} {tgt : Nat} (dg : decode cc pc = .ok (.ifCond .lt off, 3)) (ht : (pc : Int) + off = (tgt : Int)) (KT : x < 0 → J tgt lv st N rf h) (KF : ¬ x < 0 → J (pc + 3) lv st N rf h) : J pc lv (.int x :: st) N rf h := by
  obtain ⟨p, e, R, s, m, args, below, meth, c, Q, rfl, hx, hb, hml, hown, hts, hK, hini, hfr, hlo, hce, hsl, hret⟩ := X
  intro hN0 H locs ls hW hS hl
  exact lv_if_lt hx hb dg ht (fun q => KT q hN0 H locs ls hW hS hl) (fun q => KF q hN0 H locs ls hW hS hl)
theorem zv_icmp_lt (X : zOK l D cy S0 d own cc nL ini N0 N' ret RT J) {x y : Int32} {off : Int} {tgt : Nat} (dg : decode cc pc = .ok (.if_icmp .lt off, 3)) (ht : (pc : Int) + off = (tgt : Int)) (KT : x < y → J tgt lv st N rf h) (KF : ¬ x < y → J (pc + 3) lv st N rf h) : J pc lv (.int y :: .int x :: st) N rf h := by
  obtain ⟨p, e, R, s, m, args, below, meth, c, Q, rfl, hx, hb, hml, hown, hts, hK, hini, hfr, hlo, hce, hsl, hret⟩ := X
  intro hN0 H locs ls hW hS hl
  exact lv_icmp_lt hx hb dg ht (fun q => KT q hN0 H locs ls hW hS hl) (fun q => KF q hN0 H locs ls hW hS hl)
theorem zv_lcmp_lt (X : zOK l D cy S0 d own cc nL ini N0 N' ret RT J) {x y : Int64} {off : Int} {tgt pc1 pc2 : Nat} (dg0 : decode cc pc = .ok (.lcmp, 1)) (h1 : pc + 1 = pc1) (dg : decode cc pc1 = .ok (.ifCond .lt off, 3)) (ht : (pc1 : Int) + off = (tgt : Int)) (h2 : pc1 + 3 = pc2) (KT : x < y → J tgt lv st N rf h) (KF : ¬ x < y → J pc2 lv st N rf h) : J pc lv (.long y :: .long x :: st) N rf h := by
  obtain ⟨p, e, R, s, m, args, below, meth, c, Q, rfl, hx, hb, hml, hown, hts, hK, hini, hfr, hlo, hce, hsl, hret⟩ := X
  subst h1; subst h2
  intro hN0 H locs ls hW hS hl
  refine W.lcmp hx hb dg0 ?_
  exact lv_if_lt hx hb dg ht (fun q => KT ((lg_cmp_lt x y).mp q) hN0 H locs ls hW hS hl) (fun q => KF (fun z => q ((lg_cmp_lt x y).mpr z)) hN0 H locs ls hW hS hl)
theorem zv_if_ge (X : zOK l D cy S0 d own cc nL ini N0 N' ret RT J) {x : Int32} {off : Int} {tgt : Nat} (dg : decode cc pc = .ok (.ifCond .ge off, 3)) (ht : (pc : Int) + off = (tgt : Int)) (KT : 0 ≤ x → J tgt lv st N rf h) (KF : ¬ 0 ≤ x → J (pc + 3) lv st N rf h) : J pc lv (.int x :: st) N rf h := by
  obtain ⟨p, e, R, s, m, args, below, meth, c, Q, rfl, hx, hb, hml, hown, hts, hK, hini, hfr, hlo, hce, hsl, hret⟩ := X
  intro hN0 H locs ls hW hS hl
  exact lv_if_ge hx hb dg ht (fun q => KT q hN0 H locs ls hW hS hl) (fun q => KF q hN0 H locs ls hW hS hl)
theorem zv_icmp_ge (X : zOK l D cy S0 d own cc nL ini N0 N' ret RT J) {x y : Int32} {off : Int} {tgt : Nat} (dg : decode cc pc = .ok (.if_icmp .ge off, 3)) (ht : (pc : Int) + off = (tgt : Int)) (KT : y ≤ x → J tgt lv st N rf h) (KF : ¬ y ≤ x → J (pc + 3) lv st N rf h) : J pc lv (.int y :: .int x :: st) N rf h := by
  obtain ⟨p, e, R, s, m, args, below, meth, c, Q, rfl, hx, hb, hml, hown, hts, hK, hini, hfr, hlo, hce, hsl, hret⟩ := X
  intro hN0 H locs ls hW hS hl
  exact lv_icmp_ge hx hb dg ht (fun q => KT q hN0 H locs ls hW hS hl) (fun q => KF q hN0 H locs ls hW hS hl)
theorem zv_lcmp_ge (X : zOK l D cy S0 d own cc nL ini N0 N' ret RT J) {x y : Int64} {off : Int} {tgt pc1 pc2 : Nat} (dg0 : decode cc pc = .ok (.lcmp, 1)) (h1 : pc + 1 = pc1) (dg : decode cc pc1 = .ok (.ifCond .ge off, 3)) (ht : (pc1 : Int) + off = (tgt : Int)) (h2 : pc1 + 3 = pc2) (KT : y ≤ x → J tgt lv st N rf h) (KF : ¬ y ≤ x → J pc2 lv st N rf h) : J pc lv (.long y :: .long x :: st) N rf h := by
  obtain ⟨p, e, R, s, m, args, below, meth, c, Q, rfl, hx, hb, hml, hown, hts, hK, hini, hfr, hlo, hce, hsl, hret⟩ := X
  subst h1; subst h2
  intro hN0 H locs ls hW hS hl
  refine W.lcmp hx hb dg0 ?_
  exact lv_if_ge hx hb dg ht (fun q => KT ((lg_cmp_ge x y).mp q) hN0 H locs ls hW hS hl) (fun q => KF (fun z => q ((lg_cmp_ge x y).mpr z)) hN0 H locs ls hW hS hl)
theorem zv_if_gt (X : zOK l D cy S0 d own cc nL ini N0 N' ret RT J) {x : Int32} {off : Int} {tgt : Nat} (dg : decode cc pc = .ok (.ifCond .gt off, 3)) (ht : (pc : Int) + off = (tgt : Int)) (KT : 0 < x → J tgt lv st N rf h) (KF : ¬ 0 < x → J (pc + 3) lv st N rf h) : J pc lv (.int x :: st) N rf h := by
  obtain ⟨p, e, R, s, m, args, below, meth, c, Q, rfl, hx, hb, hml, hown, hts, hK, hini, hfr, hlo, hce, hsl, hret⟩ := X
  intro hN0 H locs ls hW hS hl
  exact lv_if_gt hx hb dg ht (fun q => KT q hN0 H locs ls hW hS hl) (fun q => KF q hN0 H locs ls hW hS hl)
theorem zv_icmp_gt (X : zOK l D cy S0 d own cc nL ini N0 N' ret RT J) {x y : Int32} {off : Int} {tgt : Nat} (dg : decode cc pc = .ok (.if_icmp .gt off, 3)) (ht : (pc : Int) + off = (tgt : Int)) (KT : y < x → J tgt lv st N rf h) (KF : ¬ y < x → J (pc + 3) lv st N rf h) : J pc lv (.int y :: .int x :: st) N rf h := by
  obtain ⟨p, e, R, s, m, args, below, meth, c, Q, rfl, hx, hb, hml, hown, hts, hK, hini, hfr, hlo, hce, hsl, hret⟩ := X
  intro hN0 H locs ls hW hS hl
  exact lv_icmp_gt hx hb dg ht (fun q => KT q hN0 H locs ls hW hS hl) (fun q => KF q hN0 H locs ls hW hS hl)
theorem zv_lcmp_gt (X : zOK l D cy S0 d own cc nL ini N0 N' ret RT J) {x y : Int64} {off : Int} {tgt pc1 pc2 : Nat} (dg0 : decode cc pc = .ok (.lcmp, 1)) (h1 : pc + 1 = pc1) (dg : decode cc pc1 = .ok (.ifCond .gt off, 3)) (ht : (pc1 : Int) + off = (tgt : Int)) (h2 : pc1 + 3 = pc2) (KT : y < x → J tgt lv st N rf h) (KF : ¬ y < x → J pc2 lv st N rf h) : J pc lv (.long y :: .long x :: st) N rf h := by
  obtain ⟨p, e, R, s, m, args, below, meth, c, Q, rfl, hx, hb, hml, hown, hts, hK, hini, hfr, hlo, hce, hsl, hret⟩ := X
  subst h1; subst h2
  intro hN0 H locs ls hW hS hl
  refine W.lcmp hx hb dg0 ?_
  exact lv_if_gt hx hb dg ht (fun q => KT ((lg_cmp_gt x y).mp q) hN0 H locs ls hW hS hl) (fun q => KF (fun z => q ((lg_cmp_gt x y).mpr z)) hN0 H locs ls hW hS hl)
theorem zv_if_le (X : zOK l D cy S0 d own cc nL ini N0 N' ret RT J) {x : Int32} {off : Int} {tgt : Nat} (dg : decode cc pc = .ok (.ifCond .le off, 3)) (ht : (pc : Int) + off = (tgt : Int)) (KT : x ≤ 0 → J tgt lv st N rf h) (KF : ¬ x ≤ 0 → J (pc + 3) lv st N rf h) : J pc lv (.int x :: st) N rf h := by
  obtain ⟨p, e, R, s, m, args, below, meth, c, Q, rfl, hx, hb, hml, hown, hts, hK, hini, hfr, hlo, hce, hsl, hret⟩ := X
  intro hN0 H locs ls hW hS hl
  exact lv_if_le hx hb dg ht (fun q => KT q hN0 H locs ls hW hS hl) (fun q => KF q hN0 H locs ls hW hS hl)
theorem zv_icmp_le (X : zOK l D cy S0 d own cc nL ini N0 N' ret RT J) {x y : Int32} {off : Int} {tgt : Nat} (dg : decode cc pc = .ok (.if_icmp .le off, 3)) (ht : (pc : Int) + off = (tgt : Int)) (KT : x ≤ y → J tgt lv st N rf h) (KF : ¬ x ≤ y → J (pc + 3) lv st N rf h) : J pc lv (.int y :: .int x :: st) N rf h := by
  obtain ⟨p, e, R, s, m, args, below, meth, c, Q, rfl, hx, hb, hml, hown, hts, hK, hini, hfr, hlo, hce, hsl, hret⟩ := X
  intro hN0 H locs ls hW hS hl
  exact lv_icmp_le hx hb dg ht (fun q => KT q hN0 H locs ls hW hS hl) (fun q => KF q hN0 H locs ls hW hS hl)
theorem zv_lcmp_le (X : zOK l D cy S0 d own cc nL ini N0 N' ret RT J) {x y : Int64} {off : Int} {tgt pc1 pc2 : Nat} (dg0 : decode cc pc = .ok (.lcmp, 1)) (h1 : pc + 1 = pc1) (dg : decode cc pc1 = .ok (.ifCond .le off, 3)) (ht : (pc1 : Int) + off = (tgt : Int)) (h2 : pc1 + 3 = pc2) (KT : x ≤ y → J tgt lv st N rf h) (KF : ¬ x ≤ y → J pc2 lv st N rf h) : J pc lv (.long y :: .long x :: st) N rf h := by
  obtain ⟨p, e, R, s, m, args, below, meth, c, Q, rfl, hx, hb, hml, hown, hts, hK, hini, hfr, hlo, hce, hsl, hret⟩ := X
  subst h1; subst h2
  intro hN0 H locs ls hW hS hl
  refine W.lcmp hx hb dg0 ?_
  exact lv_if_le hx hb dg ht (fun q => KT ((lg_cmp_le x y).mp q) hN0 H locs ls hW hS hl) (fun q => KF (fun z => q ((lg_cmp_le x y).mpr z)) hN0 H locs ls hW hS hl)
theorem zv_goto (X : zOK l D cy S0 d own cc nL ini N0 N' ret RT J) {off : Int} {tgt : Nat} (dg : decode cc pc = .ok (.goto off, 3)) (ht : (pc : Int) + off = (tgt : Int)) (K : J tgt lv st N rf h) : J pc lv st N rf h := by
  obtain ⟨p, e, R, s, m, args, below, meth, c, Q, rfl, hx, hb, hml, hown, hts, hK, hini, hfr, hlo, hce, hsl, hret⟩ := X
  intro hN0 H locs ls hW hS hl
  exact lv_goto hx hb dg ht (K hN0 H locs ls hW hS hl)
theorem zv_tabOut (X : zOK l D cy S0 d own cc nL ini N0 N' ret RT J) {dflt lo hi : Int} {offs : Array Int} {len : Nat} {x : Int32} {tgt : Nat} (dg : decode cc pc = .ok (.tableswitch dflt lo hi offs, len)) (hq : x.toInt < lo ∨ hi < x.toInt) (ht : (pc : Int) + dflt = (tgt : Int)) (K : J tgt lv st N rf h) : J pc lv (.int x :: st) N rf h := by
  obtain ⟨p, e, R, s, m, args, below, meth, c, Q, rfl, hx, hb, hml, hown, hts, hK, hini, hfr, hlo, hce, hsl, hret⟩ := X
  intro hN0 H locs ls hW hS hl
  exact lv_tableOut hx hb dg hq ht (K hN0 H locs ls hW hS hl)
theorem zv_tabIn (X : zOK l D cy S0 d own cc nL ini N0 N' ret RT J) {dflt lo hi : Int} {offs : Array Int} {len : Nat} {x : Int32} {off : Int} {tgt : Nat} (dg : decode cc pc = .ok (.tableswitch dflt lo hi offs, len)) (h1 : ¬ x.toInt < lo) (h2 : ¬ hi < x.toInt) (ho : offs[(x.toInt - lo).toNat]? = some off) (ht : (pc : Int) + off = (tgt : Int)) (K : J tgt lv st N rf h) : J pc lv (.int x :: st) N rf h := by
  obtain ⟨p, e, R, s, m, args, below, meth, c, Q, rfl, hx, hb, hml, hown, hts, hK, hini, hfr, hlo, hce, hsl, hret⟩ := X
  intro hN0 H locs ls hW hS hl
  exact lv_tableIn hx hb dg h1 h2 ho ht (K hN0 H locs ls hW hS hl)
theorem zv_ret (X : zOK l D cy S0 d own cc nL ini N0 N' ret RT J) (v : Option Value) (hv : v.toList = st) (hr : RT v N rf h) (hz : zrt cc ret pc v) : J pc lv st N rf h := by
  subst hv
  obtain ⟨p, e, R, s, m, args, below, meth, c, Q, rfl, hx, hb, hml, hown, hts, hK, hini, hfr, hlo, hce, hsl, hret⟩ := X
  intro hN0 H locs ls hW hS hl
  exact hret pc ls H locs v N rf h hr hW hS hz
end ZR

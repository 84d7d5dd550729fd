section ZH
variable {l : Launch} {D : va_G} {cy : Nat → ClassId} {S0 d : Nat} {own : String} {cc : ByteArray} {nL : Nat} {ini : Bool} {N0 N' : Nat} {ret : Option FieldType} {RT : Option Value → Nat → zRf → zHp → Prop} {J : zJ} {pc : Nat} {lv : List (Nat × Value)} {st : List Value} {N : Nat} {rf : zRf} {h : zHp}
def zFL (own : String) (idx ci j : Nat) (ty : FieldType) (fin : Bool) : Prop := ∃ q : vw_C, vwCl[ci]? = some q ∧ j < q.2.2 ∧ zfty ci j = ty ∧ (q.2.1 j).2.2.2 = fin ∧ (fin = true → (q.2.1 j).1 = own) ∧ Cond.fieldLink own idx (q.2.1 j).1 (q.2.1 j).2.1 (q.2.1 j).2.2.1 ∈ zT
theorem zw_other {D : va_G} {cy : Nat → ClassId} {S0 N k : Nat} {rf rf' : zRf} {h h' : zHp} {H H' : Heap} (hW : zW D cy S0 N rf h H) (hz : H'.size = H.size) (ho : ∀ q, q ≠ S0 + k → H'[q]? = H[q]?) (e1 : ∀ j, j ≠ k → h'.1 j = h.1 j) (e2 : ∀ j, j ≠ k → h'.2 j = h.2 j) (e3 : ∀ j, j ≠ k → rf' j = rf j) (hk : zat D cy S0 rf' h' k H') : zW D cy S0 N rf' h' H' := by
  refine ⟨hz.trans hW.1, fun j hj => ?_⟩
  by_cases hjk : j = k
  · subst hjk; exact hk
  · exact zat_congr (hW.2 j hj) (e1 j hjk) (e2 j hjk) (e3 j hjk) (ho _ (by omega))
theorem zwi_ne {h : zHp} {k i : Nat} {x : Int32} (j : Nat) (hj : j ≠ k) : (zwi h k i x).1 j = h.1 j := by simp [zwi, va_up, hj]
theorem zwl_ne {h : zHp} {k i : Nat} {x : Int64} (j : Nat) (hj : j ≠ k) : (zwl h k i x).2 j = h.2 j := by simp [zwl, va_up, hj]
theorem zwr_ne {rf : zRf} {k i : Nat} {x : Option Nat} (j : Nat) (hj : j ≠ k) : zwr rf k i x j = rf j := by simp [zwr, va_up, hj]
theorem zwi_self {h : zHp} {k i : Nat} {x : Int32} : (zwi h k i x).1 k = upd (h.1 k) i x := by simp [zwi, va_up]
theorem zwl_self {h : zHp} {k i : Nat} {x : Int64} : (zwl h k i x).2 k = vp_updL (h.2 k) i x := by simp [zwl, va_up]
theorem zwr_self {rf : zRf} {k i : Nat} {x : Option Nat} : zwr rf k i x k = va_up (rf k) i x := by simp [zwr, va_up]
theorem zv_getI (X : zOK l D cy S0 d own cc nL ini N0 N' ret RT J) {idx ci j k : Nat} {fin : Bool} (hf : zFL own idx ci j .int fin) (hk : zkd k = ci) (hkN : k < N) (dg : decode cc pc = .ok (.getfield idx, 3)) (K : J (pc + 3) lv (.int (h.1 k j) :: st) N rf h) : J pc lv (.ref k :: st) N rf h := by
  obtain ⟨p, e, R, s, m, args, below, meth, c, Q, rfl, hx, hb, hml, hown, hts, hK, hini, hfr, hlo, hce, hsl, hret⟩ := X
  subst hk
  intro hN0 H locs ls hW hS hl
  obtain ⟨q, hq, hj, hty, -, -, hm⟩ := hf
  obtain ⟨cell, c1, c2, c3, c4⟩ := (hW.2 k hkN).2.2.2 q hq
  obtain ⟨hin, -, -⟩ := zcls _ q hq
  obtain ⟨hSl, hfc, kC, hkC, hkind⟩ := hK.1 _ q hq
  obtain ⟨cf, kf, fi, f, hi, hslot⟩ := hSl j hj
  refine W.getf hx hb hown (hts _ hm) hi (u_facts hfc hkC (u_lays hts hin hj) hi).1 c1 (by rw [c3]; exact fun z => by cases z) (v := .int (h.1 k j)) ?_ rfl rfl dg (K hN0 H locs ls hW hS hl)
  rw [hslot, c4 j hj]
  simp only [zfv, hty]
theorem zv_getL (X : zOK l D cy S0 d own cc nL ini N0 N' ret RT J) {idx ci j k : Nat} {fin : Bool} (hf : zFL own idx ci j .long fin) (hk : zkd k = ci) (hkN : k < N) (dg : decode cc pc = .ok (.getfield idx, 3)) (K : J (pc + 3) lv (.long (h.2 k j) :: st) N rf h) : J pc lv (.ref k :: st) N rf h := by
  obtain ⟨p, e, R, s, m, args, below, meth, c, Q, rfl, hx, hb, hml, hown, hts, hK, hini, hfr, hlo, hce, hsl, hret⟩ := X
  subst hk
  intro hN0 H locs ls hW hS hl
  obtain ⟨q, hq, hj, hty, -, -, hm⟩ := hf
  obtain ⟨cell, c1, c2, c3, c4⟩ := (hW.2 k hkN).2.2.2 q hq
  obtain ⟨hin, -, -⟩ := zcls _ q hq
  obtain ⟨hSl, hfc, kC, hkC, hkind⟩ := hK.1 _ q hq
  obtain ⟨cf, kf, fi, f, hi, hslot⟩ := hSl j hj
  refine W.getf hx hb hown (hts _ hm) hi (u_facts hfc hkC (u_lays hts hin hj) hi).1 c1 (by rw [c3]; exact fun z => by cases z) (v := .long (h.2 k j)) ?_ rfl rfl dg (K hN0 H locs ls hW hS hl)
  rw [hslot, c4 j hj]
  simp only [zfv, hty]
theorem zv_getR (X : zOK l D cy S0 d own cc nL ini N0 N' ret RT J) {idx ci j k a : Nat} {ty : FieldType} {fin : Bool} (hf : zFL own idx ci j ty fin) (hty0 : ty ≠ .int ∧ ty ≠ .long) (hk : zkd k = ci) (hkN : k < N) (hr : rf k j = some a) (dg : decode cc pc = .ok (.getfield idx, 3)) (K : J (pc + 3) lv (.ref a :: st) N rf h) : J pc lv (.ref k :: st) N rf h := by
  obtain ⟨p, e, R, s, m, args, below, meth, c, Q, rfl, hx, hb, hml, hown, hts, hK, hini, hfr, hlo, hce, hsl, hret⟩ := X
  subst hk
  intro hN0 H locs ls hW hS hl
  obtain ⟨q, hq, hj, hty, -, -, hm⟩ := hf
  obtain ⟨cell, c1, c2, c3, c4⟩ := (hW.2 k hkN).2.2.2 q hq
  obtain ⟨hin, -, -⟩ := zcls _ q hq
  obtain ⟨hSl, hfc, kC, hkC, hkind⟩ := hK.1 _ q hq
  obtain ⟨cf, kf, fi, f, hi, hslot⟩ := hSl j hj
  refine W.getf hx hb hown (hts _ hm) hi (u_facts hfc hkC (u_lays hts hin hj) hi).1 c1 (by rw [c3]; exact fun z => by cases z) (v := .ref (S0 + a)) ?_ rfl rfl dg (K hN0 H locs ls hW hS hl)
  rw [hslot, c4 j hj]
  have hz : zfv S0 rf h k j = zrv S0 (va_rf (rf k j)) := by
    unfold zfv
    rw [hty]
    obtain ⟨n1, n2⟩ := hty0
    cases ty <;> first | rfl | exact absurd rfl n1 | exact absurd rfl n2
  rw [hz, hr]
  rfl
theorem zv_putI (X : zOK l D cy S0 d own cc nL ini N0 N' ret RT J) {idx ci j k : Nat} {x : Int32} (hf : zFL own idx ci j .int false) (hk : zkd k = ci) (hkN : k < N) (dg : decode cc pc = .ok (.putfield idx, 3)) (K : J (pc + 3) lv st N rf (zwi h k j x)) : J pc lv (.int x :: .ref k :: st) N rf h := by
  obtain ⟨p, e, R, s, m, args, below, meth, c, Q, rfl, hx, hb, hml, hown, hts, hK, hini, hfr, hlo, hce, hsl, hret⟩ := X
  subst hk
  intro hN0 H locs ls hW hS hl
  obtain ⟨q, hq, hj, hty, hfin, -, hm⟩ := hf
  obtain ⟨cell, c1, c2, c3, c4⟩ := (hW.2 k hkN).2.2.2 q hq
  obtain ⟨hin, htys, hnm⟩ := zcls _ q hq
  have hKv : va_K D vwCl [] s := ⟨hK.1, fun k q hq => by simp at hq⟩
  have hap := va_apart (own := own) hts hin (zfty (zkd k)) htys hnm hKv hq
  obtain ⟨hSl, hfc, kC, hkC, hkind⟩ := hK.1 _ q hq
  obtain ⟨cf, kf, fi, f, hi, hslot⟩ := hSl j hj
  have hlay := hts _ (hin _ (u_in_lay hj))
  unfold u_lay at hlay
  rw [if_neg (by rw [hfin]; decide)] at hlay
  have hst := (u_facts hfc hkC (u_lays hts hin hj) hi).1
  have hd0 := htys j hj
  rw [hty] at hd0
  have h6 := u_store (v := .int x) hfc hkC hkind hlay hi hd0 rfl rfl
  refine W.putK hx hb (f := f) ⟨hown, hts _ hm, ⟨_, _, _, hi⟩, hst⟩ (by rw [c2]; exact h6) c1 c3 (by rw [hslot]; exact k2_hasslot (c4 j hj)) rfl rfl dg fun H' e1 e2 e3 => ?_
  rw [hslot] at e1
  have hl11 := zcl_lt hq
  refine K hN0 H' _ ls (zw_other hW e2 e3 (fun a ha => zwi_ne a ha) (fun a ha => rfl) (fun _ _ => rfl) ⟨fun z => by omega, fun z => by omega, fun z => by omega, fun q' hq' => ?_⟩) (hS.put e2 e3 (show S0 ≤ S0 + k by omega)) hl
  cases hq.symm.trans hq'
  refine t_OB.to (V := updV (zfv S0 rf h k) j (.int x)) ⟨_, e1, c2, c3, t_set c4 hap hj _⟩ (fun i hi' => ?_)
  by_cases hij : i = j
  · subst hij
    simp only [updV, if_true, zfv, hty, zwi_self]
    simp [upd]
  · simp only [updV, if_neg hij, zfv]
    split <;> simp [zwi, va_up, upd, vp_updL, hij]
theorem zv_putL (X : zOK l D cy S0 d own cc nL ini N0 N' ret RT J) {idx ci j k : Nat} {x : Int64} (hf : zFL own idx ci j .long false) (hk : zkd k = ci) (hkN : k < N) (dg : decode cc pc = .ok (.putfield idx, 3)) (K : J (pc + 3) lv st N rf (zwl h k j x)) : J pc lv (.long x :: .ref k :: st) N rf h := by
  obtain ⟨p, e, R, s, m, args, below, meth, c, Q, rfl, hx, hb, hml, hown, hts, hK, hini, hfr, hlo, hce, hsl, hret⟩ := X
  subst hk
  intro hN0 H locs ls hW hS hl
  obtain ⟨q, hq, hj, hty, hfin, -, hm⟩ := hf
  obtain ⟨cell, c1, c2, c3, c4⟩ := (hW.2 k hkN).2.2.2 q hq
  obtain ⟨hin, htys, hnm⟩ := zcls _ q hq
  have hKv : va_K D vwCl [] s := ⟨hK.1, fun k q hq => by simp at hq⟩
  have hap := va_apart (own := own) hts hin (zfty (zkd k)) htys hnm hKv hq
  obtain ⟨hSl, hfc, kC, hkC, hkind⟩ := hK.1 _ q hq
  obtain ⟨cf, kf, fi, f, hi, hslot⟩ := hSl j hj
  have hlay := hts _ (hin _ (u_in_lay hj))
  unfold u_lay at hlay
  rw [if_neg (by rw [hfin]; decide)] at hlay
  have hst := (u_facts hfc hkC (u_lays hts hin hj) hi).1
  have hd0 := htys j hj
  rw [hty] at hd0
  have h6 := u_store (v := .long x) hfc hkC hkind hlay hi hd0 rfl rfl
  refine W.putK hx hb (f := f) ⟨hown, hts _ hm, ⟨_, _, _, hi⟩, hst⟩ (by rw [c2]; exact h6) c1 c3 (by rw [hslot]; exact k2_hasslot (c4 j hj)) rfl rfl dg fun H' e1 e2 e3 => ?_
  rw [hslot] at e1
  have hl11 := zcl_lt hq
  refine K hN0 H' _ ls (zw_other hW e2 e3 (fun a ha => rfl) (fun a ha => zwl_ne a ha) (fun _ _ => rfl) ⟨fun z => by omega, fun z => by omega, fun z => by omega, fun q' hq' => ?_⟩) (hS.put e2 e3 (show S0 ≤ S0 + k by omega)) hl
  cases hq.symm.trans hq'
  refine t_OB.to (V := updV (zfv S0 rf h k) j (.long x)) ⟨_, e1, c2, c3, t_set c4 hap hj _⟩ (fun i hi' => ?_)
  by_cases hij : i = j
  · subst hij
    simp only [updV, if_true, zfv, hty, zwl_self]
    simp [vp_updL]
  · simp only [updV, if_neg hij, zfv]
    split <;> simp [zwl, va_up, upd, vp_updL, hij]
theorem zv_putF (X : zOK l D cy S0 d own cc nL ini N0 N' ret RT J) {idx ci j k a : Nat} {ty : FieldType} (hi0 : ini = true) (hf : zFL own idx ci j ty true) (hty0 : (∃ t, ty = .array t) ∨ ∃ n, ty = .object n) (hk : zkd k = ci) (hkN : k < N) (dg : decode cc pc = .ok (.putfield idx, 3)) (K : J (pc + 3) lv st N (zwr rf k j (some a)) h) : J pc lv (.ref a :: .ref k :: st) N rf h := by
  obtain ⟨p, e, R, s, m, args, below, meth, c, Q, rfl, hx, hb, hml, hown, hts, hK, hini, hfr, hlo, hce, hsl, hret⟩ := X
  subst hk
  intro hN0 H locs ls hW hS hl
  obtain ⟨q, hq, hj, hty, hfin, hdecl, hm⟩ := hf
  obtain ⟨cell, c1, c2, c3, c4⟩ := (hW.2 k hkN).2.2.2 q hq
  obtain ⟨hin, htys, hnm⟩ := zcls _ q hq
  have hKv : va_K D vwCl [] s := ⟨hK.1, fun k q hq => by simp at hq⟩
  have hap := va_apart (own := own) hts hin (zfty (zkd k)) htys hnm hKv hq
  obtain ⟨hSl, hfc, kC, hkC, hkind⟩ := hK.1 _ q hq
  obtain ⟨cf, kf, fi, f, hi, hslot⟩ := hSl j hj
  have hlay := hts _ (hin _ (u_in_lay hj))
  unfold u_lay at hlay
  rw [if_pos hfin] at hlay
  have hst := (u_facts hfc hkC (u_lays hts hin hj) hi).1
  have hd0 := htys j hj
  rw [hty] at hd0
  have hcf : m.cls = cf := by
    obtain ⟨_, _, c', _, _, _, -, -, hf', -, -, -, hown2, -⟩ := Cond.laysFinal_spec hlay
    have e1 : c' = cf := by have := hi.symm.trans hf'; simp at this; exact this.1.symm
    rw [hdecl rfl] at hown2
    rw [← e1]; exact Option.some.inj (hown.symm.trans hown2)
  have h6 := u_fits (v := .ref (S0 + a)) hfc hkC hkind (Or.inr hlay) hi hd0 (by rcases hty0 with ⟨t, rfl⟩ | ⟨n, rfl⟩ <;> rfl) (by rcases hty0 with ⟨t, rfl⟩ | ⟨n, rfl⟩ <;> rfl)
  refine W.putFinK hx hb hown (hts _ hm) hi hst hcf (hini hi0) (by rw [c2]; exact h6) c1 c3 (by rw [hslot]; exact k2_hasslot (c4 j hj)) rfl rfl dg fun H' e1 e2 e3 => ?_
  rw [hslot] at e1
  have hl11 := zcl_lt hq
  refine K hN0 H' _ ls (zw_other hW e2 e3 (fun _ _ => rfl) (fun _ _ => rfl) (fun a ha => zwr_ne a ha) ⟨fun z => by omega, fun z => by omega, fun z => by omega, fun q' hq' => ?_⟩) (hS.put e2 e3 (show S0 ≤ S0 + k by omega)) hl
  cases hq.symm.trans hq'
  refine t_OB.to (V := updV (zfv S0 rf h k) j (.ref (S0 + a))) ⟨_, e1, c2, c3, t_set c4 hap hj _⟩ (fun i hi' => ?_)
  by_cases hij : i = j
  · subst hij
    simp only [updV, if_true, zfv, hty, zwr_self]
    rcases hty0 with ⟨t, rfl⟩ | ⟨n, rfl⟩ <;> simp [va_up, va_rf, zrv]
  · simp only [updV, if_neg hij, zfv]
    split <;> simp [zwr, va_up, hij]
theorem zv_iald (X : zOK l D cy S0 d own cc nL ini N0 N' ret RT J) {k n : Nat} {i : Int32} {x : Int32} (hk : zkd k = 11) (hn : zln k = n) (hkN : k < N) (dg : decode cc pc = .ok (.iaload, 1)) (hr : zri h k n i = some x) (K : J (pc + 1) lv (.int x :: st) N rf h) : J pc lv (.int i :: .ref k :: st) N rf h := by
  obtain ⟨p, e, R, s, m, args, below, meth, c, Q, rfl, hx, hb, hml, hown, hts, hK, hini, hfr, hlo, hce, hsl, hret⟩ := X
  subst hn
  unfold zri at hr
  split at hr
  · cases hr
  · next hin =>
    cases hr
    intro hN0 H locs ls hW hS hl
    have hlt : i.toNatClampNeg < zln k := Nat.not_le.mp fun z => hin (Or.inr z)
    exact W.iald (v := .int (h.1 k i.toNatClampNeg)) hx hb ((hW.2 k hkN).1 hk) (hK.2.1.1 (zln k) _) (fun z => by cases z) (by rw [arrV_size]; exact hin) (by rw [arrV_read _ _ hlt]) rfl rfl dg (K hN0 H locs ls hW hS hl)
theorem zv_lald (X : zOK l D cy S0 d own cc nL ini N0 N' ret RT J) {k n : Nat} {i : Int32} {x : Int64} (hk : zkd k = 12) (hn : zln k = n) (hkN : k < N) (dg : decode cc pc = .ok (.laload, 1)) (hr : zrj h k n i = some x) (K : J (pc + 1) lv (.long x :: st) N rf h) : J pc lv (.int i :: .ref k :: st) N rf h := by
  obtain ⟨p, e, R, s, m, args, below, meth, c, Q, rfl, hx, hb, hml, hown, hts, hK, hini, hfr, hlo, hce, hsl, hret⟩ := X
  subst hn
  unfold zrj at hr
  split at hr
  · cases hr
  · next hin =>
    cases hr
    intro hN0 H locs ls hW hS hl
    have hlt : i.toNatClampNeg < zln k := Nat.not_le.mp fun z => hin (Or.inr z)
    exact W.lald (v := .long (h.2 k i.toNatClampNeg)) hx hb ((hW.2 k hkN).2.1 hk) (hK.2.2.1.1 (zln k) _) (fun z => by cases z) (by rw [arrV_size]; exact hin) (by rw [arrV_read _ _ hlt]) rfl rfl dg (K hN0 H locs ls hW hS hl)
theorem zv_zald (X : zOK l D cy S0 d own cc nL ini N0 N' ret RT J) {k n : Nat} {i : Int32} {x : Int32} (hk : zkd k = 13) (hn : zln k = n) (hkN : k < N) (dg : decode cc pc = .ok (.baload, 1)) (hr : zri h k n i = some x) (K : J (pc + 1) lv (.int x :: st) N rf h) : J pc lv (.int i :: .ref k :: st) N rf h := by
  obtain ⟨p, e, R, s, m, args, below, meth, c, Q, rfl, hx, hb, hml, hown, hts, hK, hini, hfr, hlo, hce, hsl, hret⟩ := X
  subst hn
  unfold zri at hr
  split at hr
  · cases hr
  · next hin =>
    cases hr
    intro hN0 H locs ls hW hS hl
    have hlt : i.toNatClampNeg < zln k := Nat.not_le.mp fun z => hin (Or.inr z)
    exact W.zald (v := .int (h.1 k i.toNatClampNeg)) hx hb ((hW.2 k hkN).2.2.1 hk) (hK.2.2.2.1.1 (zln k) _) (fun z => by cases z) (by rw [arrV_size]; exact hin) (by rw [arrV_read _ _ hlt]) rfl rfl dg (K hN0 H locs ls hW hS hl)
theorem zv_iast (X : zOK l D cy S0 d own cc nL ini N0 N' ret RT J) {k n : Nat} {i : Int32} {x : Int32} {h1 : zHp} (hk : zkd k = 11) (hn : zln k = n) (hkN : k < N) (dg : decode cc pc = .ok (.iastore, 1)) (hr : zui h k n i (x) = some h1) (K : J (pc + 1) lv st N rf h1) : J pc lv (.int x :: .int i :: .ref k :: st) N rf h := by
  obtain ⟨p, e, R, s, m, args, below, meth, c, Q, rfl, hx, hb, hml, hown, hts, hK, hini, hfr, hlo, hce, hsl, hret⟩ := X
  subst hn
  unfold zui at hr
  split at hr
  · cases hr
  · next hin =>
    cases hr
    intro hN0 H locs ls hW hS hl
    refine W.iast hx hb ((hW.2 k hkN).1 hk) (hK.2.1.1 (zln k) _) (fun z => by cases z) (by rw [arrV_size]; exact hin) rfl rfl dg fun H' e1 e2 e3 => ?_
    have e1' : H'[S0 + k]? = some (arrV (cy 0) (zln k) (fun j => .int ((zwi h k i.toNatClampNeg (x)).1 k j))) := by
      rw [e1, arrV_store, zwi_self]
      congr 2
      funext j
      by_cases hj : j = i.toNatClampNeg
      · subst hj
        simp [updV, upd, vp_nar]
        try rfl
      · simp [updV, upd, hj]
    exact K hN0 H' _ ls (zw_other hW e2 e3 (fun a ha => zwi_ne a ha) (fun a ha => rfl) (fun _ _ => rfl) ⟨fun _ => e1', fun z => by omega, fun z => by omega, fun q hq => by have := zcl_lt hq; omega⟩) (hS.put e2 e3 (show S0 ≤ S0 + k by omega)) hl
theorem zv_last (X : zOK l D cy S0 d own cc nL ini N0 N' ret RT J) {k n : Nat} {i : Int32} {x : Int64} {h1 : zHp} (hk : zkd k = 12) (hn : zln k = n) (hkN : k < N) (dg : decode cc pc = .ok (.lastore, 1)) (hr : zuj h k n i (x) = some h1) (K : J (pc + 1) lv st N rf h1) : J pc lv (.long x :: .int i :: .ref k :: st) N rf h := by
  obtain ⟨p, e, R, s, m, args, below, meth, c, Q, rfl, hx, hb, hml, hown, hts, hK, hini, hfr, hlo, hce, hsl, hret⟩ := X
  subst hn
  unfold zuj at hr
  split at hr
  · cases hr
  · next hin =>
    cases hr
    intro hN0 H locs ls hW hS hl
    refine W.last hx hb ((hW.2 k hkN).2.1 hk) (hK.2.2.1.1 (zln k) _) (fun z => by cases z) (by rw [arrV_size]; exact hin) rfl rfl dg fun H' e1 e2 e3 => ?_
    have e1' : H'[S0 + k]? = some (arrV (cy 1) (zln k) (fun j => .long ((zwl h k i.toNatClampNeg (x)).2 k j))) := by
      rw [e1, arrV_store, zwl_self]
      congr 2
      funext j
      by_cases hj : j = i.toNatClampNeg
      · subst hj
        simp [updV, vp_updL, vp_nar]
        try rfl
      · simp [updV, vp_updL, hj]
    exact K hN0 H' _ ls (zw_other hW e2 e3 (fun a ha => rfl) (fun a ha => zwl_ne a ha) (fun _ _ => rfl) ⟨fun z => by omega, fun _ => e1', fun z => by omega, fun q hq => by have := zcl_lt hq; omega⟩) (hS.put e2 e3 (show S0 ≤ S0 + k by omega)) hl
theorem zv_zast (X : zOK l D cy S0 d own cc nL ini N0 N' ret RT J) {k n : Nat} {i : Int32} {x : Int32} {h1 : zHp} (hk : zkd k = 13) (hn : zln k = n) (hkN : k < N) (dg : decode cc pc = .ok (.bastore, 1)) (hr : zui h k n i (vp_nar .boolean x) = some h1) (K : J (pc + 1) lv st N rf h1) : J pc lv (.int x :: .int i :: .ref k :: st) N rf h := by
  obtain ⟨p, e, R, s, m, args, below, meth, c, Q, rfl, hx, hb, hml, hown, hts, hK, hini, hfr, hlo, hce, hsl, hret⟩ := X
  subst hn
  unfold zui at hr
  split at hr
  · cases hr
  · next hin =>
    cases hr
    intro hN0 H locs ls hW hS hl
    refine W.zast hx hb ((hW.2 k hkN).2.2.1 hk) (hK.2.2.2.1.1 (zln k) _) (fun z => by cases z) (by rw [arrV_size]; exact hin) rfl rfl dg fun H' e1 e2 e3 => ?_
    have e1' : H'[S0 + k]? = some (arrV (cy 2) (zln k) (fun j => .int ((zwi h k i.toNatClampNeg (vp_nar .boolean x)).1 k j))) := by
      rw [e1, arrV_store, zwi_self]
      congr 2
      funext j
      by_cases hj : j = i.toNatClampNeg
      · subst hj
        simp [updV, upd, vp_nar]
        try rfl
      · simp [updV, upd, hj]
    exact K hN0 H' _ ls (zw_other hW e2 e3 (fun a ha => zwi_ne a ha) (fun a ha => rfl) (fun _ _ => rfl) ⟨fun z => by omega, fun z => by omega, fun _ => e1', fun q hq => by have := zcl_lt hq; omega⟩) (hS.put e2 e3 (show S0 ≤ S0 + k by omega)) hl
theorem zv_alenI (X : zOK l D cy S0 d own cc nL ini N0 N' ret RT J) {k n : Nat} {v : Int32} (hk : zkd k = 11) (hn : zln k = n) (hv : Int32.ofNat n = v) (hkN : k < N) (dg : decode cc pc = .ok (.arraylength, 1)) (K : J (pc + 1) lv (.int v :: st) N rf h) : J pc lv (.ref k :: st) N rf h := by
  obtain ⟨p, e, R, s, m, args, below, meth, c, Q, rfl, hx, hb, hml, hown, hts, hK, hini, hfr, hlo, hce, hsl, hret⟩ := X
  subst hn; subst hv
  intro hN0 H locs ls hW hS hl
  exact W.alen (n := Int32.ofNat (zln k)) hx hb ((hW.2 k hkN).1 hk) (hK.2.1.1 (zln k) _) (by rw [arrV_size] <;> rfl) rfl rfl dg (K hN0 H locs ls hW hS hl)
theorem zv_alenL (X : zOK l D cy S0 d own cc nL ini N0 N' ret RT J) {k n : Nat} {v : Int32} (hk : zkd k = 12) (hn : zln k = n) (hv : Int32.ofNat n = v) (hkN : k < N) (dg : decode cc pc = .ok (.arraylength, 1)) (K : J (pc + 1) lv (.int v :: st) N rf h) : J pc lv (.ref k :: st) N rf h := by
  obtain ⟨p, e, R, s, m, args, below, meth, c, Q, rfl, hx, hb, hml, hown, hts, hK, hini, hfr, hlo, hce, hsl, hret⟩ := X
  subst hn; subst hv
  intro hN0 H locs ls hW hS hl
  exact W.alen (n := Int32.ofNat (zln k)) hx hb ((hW.2 k hkN).2.1 hk) (hK.2.2.1.1 (zln k) _) (by rw [arrV_size] <;> rfl) rfl rfl dg (K hN0 H locs ls hW hS hl)
theorem zv_newaI (X : zOK l D cy S0 d own cc nL ini N0 N' ret RT J) {n : Nat} {v : Int32} (hk : zkd N = 11) (hn : zln N = n) (hv : v = Int32.ofNat n) (hn2 : n < 60000) (hlim : N + 1 ≤ N') (hm : Cond.arrayClass .int ∈ zT) (hz : h.1 N = fun _ => 0) (dg : decode cc pc = .ok (.newarray .int, 2)) (K : J (pc + 2) lv (.ref N :: st) (N + 1) rf h) : J pc lv (.int v :: st) N rf h := by
  obtain ⟨p, e, R, s, m, args, below, meth, c, Q, rfl, hx, hb, hml, hown, hts, hK, hini, hfr, hlo, hce, hsl, hret⟩ := X
  subst hn; subst hv
  intro hN0 H locs ls hW hS hl
  have hnn : (Int32.ofNat (zln N)).toInt = (zln N : Int) := nI_toInt (n := zln N) (by omega)
  have hcl : (Int32.ofNat (zln N)).toNatClampNeg = zln N := nI_clamp (n := zln N) (by omega)
  have hs1 := zsz_s N
  have hm1 := zsz_mono hlim
  have hm0 := zsz_mono hN0
  refine va_newaK (N := zln N) (h := S0 + N) hx hb (atype := .int) (hts _ hm) rfl dg rfl (by rw [Int32.lt_iff_toInt_lt, hnn, Int32.toInt_zero]; omega) hcl (by simp [componentBytes, newarray.typeOf]; omega) (by omega) (by omega) hW.1 fun H' cA e1 e2 e3 e4 e5 => ?_
  have hcA : cA = cy 0 := Option.some.inj (e5.symm.trans hK.2.1.2)
  subst hcA
  have hNew : zW D cy S0 (N + 1) rf h H' := by
    refine ⟨by rw [e2]; omega, fun j hj => ?_⟩
    by_cases hjN : j = N
    · subst hjN
      have e1' : H'[S0 + j]? = some (arrV (cy 0) (zln j) (fun i => .int (h.1 j i))) := by
        rw [e1, hz]; rfl
      exact ⟨fun _ => e1', fun z => by omega, fun z => by omega, fun q hq => by have := zcl_lt hq; omega⟩
    · exact zat_congr (hW.2 j (by omega)) rfl rfl rfl (e3 _ (by omega))
  have c1 : N - N0 + 1 = N + 1 - N0 := by omega
  have c2 : zsz N - zsz N0 + zln N = zsz (N + 1) - zsz N0 := by omega
  rw [c1, c2]
  exact K (by omega) H' locs ls hNew ⟨Nat.le_trans hS.1 (by rw [e2, hW.1]; omega), fun q h1 h2 => (e3 q (by have := hS.1; rw [hW.1] at this; omega)).trans (hS.2.1 q h1 h2), hS.2.2⟩ hl
theorem zv_newaL (X : zOK l D cy S0 d own cc nL ini N0 N' ret RT J) {n : Nat} {v : Int32} (hk : zkd N = 12) (hn : zln N = n) (hv : v = Int32.ofNat n) (hn2 : n < 60000) (hlim : N + 1 ≤ N') (hm : Cond.arrayClass .long ∈ zT) (hz : h.2 N = fun _ => 0) (dg : decode cc pc = .ok (.newarray .long, 2)) (K : J (pc + 2) lv (.ref N :: st) (N + 1) rf h) : J pc lv (.int v :: st) N rf h := by
  obtain ⟨p, e, R, s, m, args, below, meth, c, Q, rfl, hx, hb, hml, hown, hts, hK, hini, hfr, hlo, hce, hsl, hret⟩ := X
  subst hn; subst hv
  intro hN0 H locs ls hW hS hl
  have hnn : (Int32.ofNat (zln N)).toInt = (zln N : Int) := nI_toInt (n := zln N) (by omega)
  have hcl : (Int32.ofNat (zln N)).toNatClampNeg = zln N := nI_clamp (n := zln N) (by omega)
  have hs1 := zsz_s N
  have hm1 := zsz_mono hlim
  have hm0 := zsz_mono hN0
  refine va_newaK (N := zln N) (h := S0 + N) hx hb (atype := .long) (hts _ hm) rfl dg rfl (by rw [Int32.lt_iff_toInt_lt, hnn, Int32.toInt_zero]; omega) hcl (by simp [componentBytes, newarray.typeOf]; omega) (by omega) (by omega) hW.1 fun H' cA e1 e2 e3 e4 e5 => ?_
  have hcA : cA = cy 1 := Option.some.inj (e5.symm.trans hK.2.2.1.2)
  subst hcA
  have hNew : zW D cy S0 (N + 1) rf h H' := by
    refine ⟨by rw [e2]; omega, fun j hj => ?_⟩
    by_cases hjN : j = N
    · subst hjN
      have e1' : H'[S0 + j]? = some (arrV (cy 1) (zln j) (fun i => .long (h.2 j i))) := by
        rw [e1, hz]; rfl
      exact ⟨fun z => by omega, fun _ => e1', fun z => by omega, fun q hq => by have := zcl_lt hq; omega⟩
    · exact zat_congr (hW.2 j (by omega)) rfl rfl rfl (e3 _ (by omega))
  have c1 : N - N0 + 1 = N + 1 - N0 := by omega
  have c2 : zsz N - zsz N0 + zln N = zsz (N + 1) - zsz N0 := by omega
  rw [c1, c2]
  exact K (by omega) H' locs ls hNew ⟨Nat.le_trans hS.1 (by rw [e2, hW.1]; omega), fun q h1 h2 => (e3 q (by have := hS.1; rw [hW.1] at this; omega)).trans (hS.2.1 q h1 h2), hS.2.2⟩ hl
theorem zv_newaZ (X : zOK l D cy S0 d own cc nL ini N0 N' ret RT J) {n : Nat} {v : Int32} (hk : zkd N = 13) (hn : zln N = n) (hv : v = Int32.ofNat n) (hn2 : n < 60000) (hlim : N + 1 ≤ N') (hm : Cond.arrayClass .boolean ∈ zT) (hz : h.1 N = fun _ => 0) (dg : decode cc pc = .ok (.newarray .boolean, 2)) (K : J (pc + 2) lv (.ref N :: st) (N + 1) rf h) : J pc lv (.int v :: st) N rf h := by
  obtain ⟨p, e, R, s, m, args, below, meth, c, Q, rfl, hx, hb, hml, hown, hts, hK, hini, hfr, hlo, hce, hsl, hret⟩ := X
  subst hn; subst hv
  intro hN0 H locs ls hW hS hl
  have hnn : (Int32.ofNat (zln N)).toInt = (zln N : Int) := nI_toInt (n := zln N) (by omega)
  have hcl : (Int32.ofNat (zln N)).toNatClampNeg = zln N := nI_clamp (n := zln N) (by omega)
  have hs1 := zsz_s N
  have hm1 := zsz_mono hlim
  have hm0 := zsz_mono hN0
  refine va_newaK (N := zln N) (h := S0 + N) hx hb (atype := .boolean) (hts _ hm) rfl dg rfl (by rw [Int32.lt_iff_toInt_lt, hnn, Int32.toInt_zero]; omega) hcl (by simp [componentBytes, newarray.typeOf]; omega) (by omega) (by omega) hW.1 fun H' cA e1 e2 e3 e4 e5 => ?_
  have hcA : cA = cy 2 := Option.some.inj (e5.symm.trans hK.2.2.2.1.2)
  subst hcA
  have hNew : zW D cy S0 (N + 1) rf h H' := by
    refine ⟨by rw [e2]; omega, fun j hj => ?_⟩
    by_cases hjN : j = N
    · subst hjN
      have e1' : H'[S0 + j]? = some (arrV (cy 2) (zln j) (fun i => .int (h.1 j i))) := by
        rw [e1, hz]; rfl
      exact ⟨fun z => by omega, fun z => by omega, fun _ => e1', fun q hq => by have := zcl_lt hq; omega⟩
    · exact zat_congr (hW.2 j (by omega)) rfl rfl rfl (e3 _ (by omega))
  have c1 : N - N0 + 1 = N + 1 - N0 := by omega
  have c2 : zsz N - zsz N0 + zln N = zsz (N + 1) - zsz N0 := by omega
  rw [c1, c2]
  exact K (by omega) H' locs ls hNew ⟨Nat.le_trans hS.1 (by rw [e2, hW.1]; omega), fun q h1 h2 => (e3 q (by have := hS.1; rw [hW.1] at this; omega)).trans (hS.2.1 q h1 h2), hS.2.2⟩ hl
theorem zv_new (X : zOK l D cy S0 d own cc nL ini N0 N' ret RT J) {idx ci : Nat} {q : vw_C} (hq : vwCl[ci]? = some q) (hk : zkd N = ci) (hn : zln N = q.2.2) (hlim : N + 1 ≤ N') (hm1 : Cond.classLink own idx q.1 ∈ zT) (hm2 : Cond.instantiable q.1 q.2.2 ∈ zT) (hm3 : Cond.initialized q.1 ∈ zT) (hzi : h.1 N = fun _ => 0) (hzl : h.2 N = fun _ => 0) (hzr : rf N = fun _ => none) (hty : ∀ j, j < q.2.2 → zfty ci j = .int ∨ zfty ci j = .long ∨ (∃ t, zfty ci j = .array t) ∨ ∃ n, zfty ci j = .object n) (dg : decode cc pc = .ok (.new idx, 3)) (K : J (pc + 3) lv (.ref N :: st) (N + 1) rf h) : J pc lv st N rf h := by
  obtain ⟨p, e, R, s, m, args, below, meth, c, Q, rfl, hx, hb, hml, hown, hts, hK, hini, hfr, hlo, hce, hsl, hret⟩ := X
  subst hk
  intro hN0 H locs ls hW hS hl
  obtain ⟨hin, htys, hnm⟩ := zcls _ q hq
  have hKn := hK.1 _ q hq
  have hs1 := zsz_s N
  have hm1' := zsz_mono hlim
  have hm0 := zsz_mono hN0
  refine W.newcK (h := S0 + N) hx hb hown (hts _ hm1) (hts _ hm2) (hts _ hm3) rfl dg (by omega) (by omega) hKn.2.1 hW.1 fun H' kC hkC e1 e2 e3 => ?_
  have hl11 := zcl_lt hq
  have hNew : zW D cy S0 (N + 1) rf h H' := by
    refine ⟨by rw [e2]; omega, fun j hj => ?_⟩
    by_cases hjN : j = N
    · subst hjN
      refine ⟨fun z => by omega, fun z => by omega, fun z => by omega, fun q' hq' => ?_⟩
      cases hq.symm.trans hq'
      refine (u_born (zfty (zkd j)) hts hin hKn hkC e1 htys).to (fun i hi => ?_)
      simp only [zfv, hzi, hzl, hzr]
      rcases hty i hi with e | e | ⟨t, e⟩ | ⟨t, e⟩ <;> rw [e] <;> rfl
    · exact zat_congr (hW.2 j (by omega)) rfl rfl rfl (e3 _ (by omega))
  have c1 : N - N0 + 1 = N + 1 - N0 := by omega
  have c2 : zsz N - zsz N0 + q.2.2 = zsz (N + 1) - zsz N0 := by omega
  rw [c1, c2]
  exact K (by omega) H' locs ls hNew ⟨Nat.le_trans hS.1 (by rw [e2, hW.1]; omega), fun q h1 h2 => (e3 q (by have := hS.1; rw [hW.1] at this; omega)).trans (hS.2.1 q h1 h2), hS.2.2⟩ hl
theorem zv_objInit (X : zOK l D cy S0 d own cc nL ini N0 N' ret RT J) {idx k : Nat} (hd : 1 ≤ d) (hm : Cond.methodLink own idx Lib.objectInit ∈ zT) (hm2 : Cond.instanceMethod Lib.objectInit ∈ zT) (hm3 : Cond.code Lib.objectInit ⟨#[0xb1]⟩ 1 none ∈ zT) (hst : (st.map fun v => v.category).sum ≤ 8) (dg : decode cc pc = .ok (.invokespecial idx, 3)) (K : J (pc + 3) lv st N rf h) : J pc lv (.ref k :: st) N rf h := by
  obtain ⟨p, e, R, s, m, args, below, meth, c, Q, rfl, hx, hb, hml, hown, hts, hK, hini, hfr, hlo, hce, hsl, hret⟩ := X
  intro hN0 H locs ls hW hS hl
  refine W.objInit hx hb hown (hts _ hm) (hts _ hm2) (hts _ hm3) rfl (hl.1.trans hml.symm) rfl dg (by omega) ?_ (K hN0 H locs ls hW hS hl)
  have h8 : ((st.map (zrv S0)).map fun v => v.category).sum ≤ 8 := by
    rw [List.map_map]
    have : ((fun v : Value => v.category) ∘ zrv S0) = fun v => v.category := by funext v; exact zrv_cat S0 v
    rw [this]; exact hst
  have := lv_room (m := m) (pc := pc) (ls := ls) (rest := st.map (zrv S0)) h8
  have h0 : (F0 m pc ls (zrv S0 (.ref k) :: st.map (zrv S0))).monitorRoom = (F0 m pc ls (st.map (zrv S0))).monitorRoom := rfl
  show 2 * (F0 m pc ls (zrv S0 (.ref k) :: st.map (zrv S0))).monitorRoom + _ + 12 ≤ R.locals
  rw [h0]
  omega
def zLV (own : String) (idx : Nat) (y : MethodName) : Prop := Cond.methodLink own idx y ∈ zT ∧ Cond.instanceMethod y ∈ zT ∧ Cond.selects y.cls y y ∈ zT
def zLS (own : String) (idx : Nat) (y : MethodName) : Prop := Cond.methodLink own idx y ∈ zT ∧ Cond.static y ∈ zT
def zLI (own : String) (idx : Nat) (y : MethodName) : Prop := Cond.methodLink own idx y ∈ zT ∧ Cond.instanceMethod y ∈ zT ∧ y.name = "<init>"
def zLN (own : String) (idx : Nat) (y : MethodName) (host : String) : Prop := Cond.methodLinkNest own idx y host ∈ zNest ∧ Cond.instanceMethod y ∈ zT ∧ y.name = "<init>"
theorem zT_good {w : Cond} (h : w ∈ zT) : (w.onTables && w.keeps) = true ∨ ∃ ty, w = .arrayClass ty := good_of_word (List.mem_filter.mp h).2
theorem zPc_blind {D : va_G} {cy : Nat → ClassId} {S0 N : Nat} {rf : zRf} {h : zHp} {as : List Value} : FrameBlind (zPc D cy S0 N rf h as) := fun a U g mk q => ⟨q.1, q.2.1, zK.same (s := U) (U := U.calling g mk a) rfl q.2.2⟩
theorem zcat8 (S0 : Nat) {st : List Value} (h : (st.map fun v => v.category).sum ≤ 8) : ((st.map (zrv S0)).map fun v => v.category).sum ≤ 8 := by
  rw [List.map_map]
  have : ((fun v : Value => v.category) ∘ zrv S0) = fun v => v.category := by funext v; exact zrv_cat S0 v
  rw [this]; exact h
theorem zGood {y : MethodName} {cc : ByteArray} {maxL : Nat} {ret : Option FieldType} {n : Nat} (my : zMY y cc maxL ret n) : GoodIn zT (Cond.code y cc maxL ret :: zT) := fun w hw => by
  rcases List.mem_cons.mp hw with rfl | hw
  · exact ⟨my.2.1, zT_good my.2.1⟩
  · exact ⟨hw, zT_good hw⟩
theorem zCB {R : Room} {s : State} {args : Array Value} {own : String} {idx : Nat} {y : MethodName} {cc : ByteArray} {maxL : Nat} {ret : Option FieldType} {n d' d mc ms : Nat} (my : zMY y cc maxL ret n) (hts : ∀ w ∈ zT, w.before args s = true) (hm : Cond.methodLink own idx y ∈ zT) (hd : d' < d) (hfr : d ≤ R.frames) (hlo : 64 * d ≤ R.locals) : CallB R s args own idx y cc maxL ret (Cond.code y cc maxL ret :: zT) (zrm d' mc ms) mc ms n :=
  callB_of n hts (zGood my) rfl rfl rfl (hts _ my.2.2.1) (hts _ hm) ⟨my.2.2.2.1, my.2.2.2.2.1, my.2.2.2.2.2.1⟩ ⟨show d' + 1 ≤ R.frames by omega, by have := my.2.2.2.2.2.2; show 8 + (maxL + 11) + 64 * d' ≤ R.locals; omega⟩
theorem zv_callV (X : zOK l D cy S0 d own cc nL ini N0 N' ret RT J) {idx d' maxL' n N1 : Nat} {y : MethodName} {cc' : ByteArray} {ret' : Option FieldType} {as : List Value} {res : Option Value} {rf1 : zRf} {h1 : zHp} {k : Nat} {q : vw_C} (lk : zLV own idx y) (my : zMY y cc' maxL' ret' n) (hc : zCT l D cy S0 d' y cc' maxL' ret' (.ref k :: as) N rf h res N1 rf1 h1) (hd : d' < d) (hkN : k < N) (hq : vwCl[zkd k]? = some q) (hqy : q.1 = y.cls) (hn : as.length = n) (hst : (st.map fun v => v.category).sum ≤ 8) (hlim : N1 ≤ N') {stk : List Value} (hs : as.reverse ++ .ref k :: st = stk) (dg : decode cc pc = .ok (.invokevirtual idx, 3)) (K : J (pc + 3) lv (res.toList ++ st) N1 rf1 h1) : J pc lv stk N rf h := by
  obtain ⟨p, e, R, s, m, args, below, meth, c, Q, rfl, hx, hb, hml, hown, hts, hK, hini, hfr, hlo, hce, hsl, hret⟩ := X
  subst hs
  intro hN0 H locs ls hW hS hl
  have hrec : ∃ cellB : Cell, H[S0 + k]? = some cellB ∧ cellB.vm.isStatics = false ∧ s.vm.findClass y.cls = some cellB.cls := by
    obtain ⟨cell, c1, c2, c3, c4⟩ := (hW.2 k hkN).2.2.2 q hq
    exact ⟨cell, c1, by rw [c3]; rfl, by rw [c2, ← hqy]; exact (hK.1 _ q hq).2.1⟩
  have hrun := va_runV (p := p) (l := l) (e := e) (below := below) (meth := meth) (locs := locs) (cells := N - N0) (slots := zsz N - zsz N0) (H := H) (g := F0 m pc ls ((as.reverse ++ .ref k :: st).map (zrv S0))) (b := S0 + k) (As := as.map (zrv S0)) (rest := st.map (zrv S0)) (Ts := zT) (C := y.cls) ⟨hx, hb, hml, hown, hts⟩ hc.2 ⟨zCB (n := n) my hts lk.1 hd hfr hlo, hts _ lk.2.1, hts _ lk.2.2⟩ ⟨zPc_blind, hrec, fun U hU hWm => ⟨rfl, by rw [hU]; exact hW, hK.warm hWm⟩⟩ rfl (by simpa using hn) hl.1 (by simp [zrv]) (lv_room (zcat8 S0 hst)) dg (by have := hc.1; have := zsz_mono hc.1; have := zsz_mono hN0; have := zsz_mono hlim; exact ⟨by omega, by omega⟩)
  intro T hT X
  obtain ⟨v, st₀, t, T', L, h0, X2, hL, e1, e2, ⟨hv, hW1, hF⟩, stp⟩ := hrun T hT X
  cases hv
  have hNN := hc.1
  have hm0 := zsz_mono hN0
  have hm1 := zsz_mono hNN
  have c1 : N - N0 + (N1 - N) = N1 - N0 := by omega
  have c2 : zsz N - zsz N0 + (zsz N1 - zsz N) = zsz N1 - zsz N0 := by omega
  rw [c1, c2] at X2
  have hS2 : va_S (fun q => S0 ≤ q) s.heap T'.heap (locs ++ L) := by
    refine ⟨Nat.le_trans hS.1 ?_, fun q h1 h2 => ?_, fun q hq => ?_⟩
    · rw [e1, ← h0]; exact hF.1
    · rw [e1, hF.2 q (by rw [h0]; exact Nat.lt_of_lt_of_le h1 hS.1) h2, h0]; exact hS.2.1 q h1 h2
    · rcases List.mem_append.mp hq with z | z
      · exact hS.2.2 q z
      · exact hL q z
  obtain ⟨t2, a1, b1⟩ := K (by omega) T'.heap (locs ++ L) ls (by rw [e1]; exact hW1) hS2 hl T' rfl X2
  refine ⟨t2, stp t2 ?_, b1⟩
  have hs : (res.toList ++ st).map (zrv S0) = (res.map (zrv S0)).toList ++ st.map (zrv S0) := by cases res <;> simp
  rw [hs] at a1
  exact a1
theorem zv_callS (X : zOK l D cy S0 d own cc nL ini N0 N' ret RT J) {idx d' maxL' n N1 : Nat} {y : MethodName} {cc' : ByteArray} {ret' : Option FieldType} {as : List Value} {res : Option Value} {rf1 : zRf} {h1 : zHp} (lk : zLS own idx y) (my : zMY y cc' maxL' ret' n) (hc : zCT l D cy S0 d' y cc' maxL' ret' as N rf h res N1 rf1 h1) (hd : d' < d) (hn : as.length = n) (hst : (st.map fun v => v.category).sum ≤ 8) (hlim : N1 ≤ N') {stk : List Value} (hs : as.reverse ++ st = stk) (dg : decode cc pc = .ok (.invokestatic idx, 3)) (K : J (pc + 3) lv (res.toList ++ st) N1 rf1 h1) : J pc lv stk N rf h := by
  obtain ⟨p, e, R, s, m, args, below, meth, c, Q, rfl, hx, hb, hml, hown, hts, hK, hini, hfr, hlo, hce, hsl, hret⟩ := X
  subst hs
  intro hN0 H locs ls hW hS hl
  have hrun := va_runS (p := p) (l := l) (e := e) (below := below) (meth := meth) (locs := locs) (cells := N - N0) (slots := zsz N - zsz N0) (H := H) (g := F0 m pc ls ((as.reverse ++ st).map (zrv S0))) (As := as.map (zrv S0)) (rest := st.map (zrv S0)) (Ts := zT) ⟨hx, hb, hml, hown, hts⟩ hc.2 ⟨zCB (n := n) my hts lk.1 hd hfr hlo, hts _ lk.2⟩ ⟨zPc_blind, fun U hU hWm => ⟨rfl, by rw [hU]; exact hW, hK.warm hWm⟩⟩ rfl (by simpa using hn) hl.1 (by simp) (lv_room (zcat8 S0 hst)) dg (by have := hc.1; have := zsz_mono hc.1; have := zsz_mono hN0; have := zsz_mono hlim; exact ⟨by omega, by omega⟩)
  intro T hT X
  obtain ⟨v, st₀, t, T', L, h0, X2, hL, e1, e2, ⟨hv, hW1, hF⟩, stp⟩ := hrun T hT X
  cases hv
  have hNN := hc.1
  have hm0 := zsz_mono hN0
  have hm1 := zsz_mono hNN
  have c1 : N - N0 + (N1 - N) = N1 - N0 := by omega
  have c2 : zsz N - zsz N0 + (zsz N1 - zsz N) = zsz N1 - zsz N0 := by omega
  rw [c1, c2] at X2
  have hS2 : va_S (fun q => S0 ≤ q) s.heap T'.heap (locs ++ L) := by
    refine ⟨Nat.le_trans hS.1 ?_, fun q h1 h2 => ?_, fun q hq => ?_⟩
    · rw [e1, ← h0]; exact hF.1
    · rw [e1, hF.2 q (by rw [h0]; exact Nat.lt_of_lt_of_le h1 hS.1) h2, h0]; exact hS.2.1 q h1 h2
    · rcases List.mem_append.mp hq with z | z
      · exact hS.2.2 q z
      · exact hL q z
  obtain ⟨t2, a1, b1⟩ := K (by omega) T'.heap (locs ++ L) ls (by rw [e1]; exact hW1) hS2 hl T' rfl X2
  refine ⟨t2, stp t2 ?_, b1⟩
  have hs : (res.toList ++ st).map (zrv S0) = (res.map (zrv S0)).toList ++ st.map (zrv S0) := by cases res <;> simp
  rw [hs] at a1
  exact a1
theorem zv_callI (X : zOK l D cy S0 d own cc nL ini N0 N' ret RT J) {idx d' maxL' n N1 : Nat} {y : MethodName} {cc' : ByteArray} {ret' : Option FieldType} {as : List Value} {res : Option Value} {rf1 : zRf} {h1 : zHp} {k : Nat} (lk : zLI own idx y) (my : zMY y cc' maxL' none n) (hc : zCT l D cy S0 d' y cc' maxL' none (.ref k :: as) N rf h res N1 rf1 h1) (hd : d' < d) (hn : as.length = n) (hst : (st.map fun v => v.category).sum ≤ 8) (hlim : N1 ≤ N') {stk : List Value} (hs : as.reverse ++ .ref k :: st = stk) (dg : decode cc pc = .ok (.invokespecial idx, 3)) (K : J (pc + 3) lv (res.toList ++ st) N1 rf1 h1) : J pc lv stk N rf h := by
  obtain ⟨p, e, R, s, m, args, below, meth, c, Q, rfl, hx, hb, hml, hown, hts, hK, hini, hfr, hlo, hce, hsl, hret⟩ := X
  subst hs
  intro hN0 H locs ls hW hS hl
  have hrun := va_runI (p := p) (l := l) (e := e) (below := below) (meth := meth) (locs := locs) (cells := N - N0) (slots := zsz N - zsz N0) (H := H) (g := F0 m pc ls ((as.reverse ++ .ref k :: st).map (zrv S0))) (b := S0 + k) (As := as.map (zrv S0)) (rest := st.map (zrv S0)) (Ts := zT) ⟨hx, hb, hml, hown, hts⟩ hc.2 ⟨zCB (n := n) my hts lk.1 hd hfr hlo, lk.2.2, hts _ lk.2.1⟩ ⟨zPc_blind, fun U hU hWm => ⟨rfl, by rw [hU]; exact hW, hK.warm hWm⟩⟩ rfl (by simpa using hn) hl.1 (by simp [zrv]) (lv_room (zcat8 S0 hst)) dg (by have := hc.1; have := zsz_mono hc.1; have := zsz_mono hN0; have := zsz_mono hlim; exact ⟨by omega, by omega⟩)
  intro T hT X
  obtain ⟨v, st₀, t, T', L, h0, X2, hL, e1, e2, ⟨hv, hW1, hF⟩, stp⟩ := hrun T hT X
  cases hv
  have hNN := hc.1
  have hm0 := zsz_mono hN0
  have hm1 := zsz_mono hNN
  have c1 : N - N0 + (N1 - N) = N1 - N0 := by omega
  have c2 : zsz N - zsz N0 + (zsz N1 - zsz N) = zsz N1 - zsz N0 := by omega
  rw [c1, c2] at X2
  have hS2 : va_S (fun q => S0 ≤ q) s.heap T'.heap (locs ++ L) := by
    refine ⟨Nat.le_trans hS.1 ?_, fun q h1 h2 => ?_, fun q hq => ?_⟩
    · rw [e1, ← h0]; exact hF.1
    · rw [e1, hF.2 q (by rw [h0]; exact Nat.lt_of_lt_of_le h1 hS.1) h2, h0]; exact hS.2.1 q h1 h2
    · rcases List.mem_append.mp hq with z | z
      · exact hS.2.2 q z
      · exact hL q z
  obtain ⟨t2, a1, b1⟩ := K (by omega) T'.heap (locs ++ L) ls (by rw [e1]; exact hW1) hS2 hl T' rfl X2
  refine ⟨t2, stp t2 ?_, b1⟩
  have hs : (res.toList ++ st).map (zrv S0) = (res.map (zrv S0)).toList ++ st.map (zrv S0) := by cases res <;> simp
  rw [hs] at a1
  exact a1
theorem zv_callN (X : zOK l D cy S0 d own cc nL ini N0 N' ret RT J) {idx d' maxL' n N1 : Nat} {y : MethodName} {cc' : ByteArray} {ret' : Option FieldType} {as : List Value} {res : Option Value} {rf1 : zRf} {h1 : zHp} {k : Nat} {host : String} (lk : zLN own idx y host) (my : zMY y cc' maxL' none n) (hc : zCT l D cy S0 d' y cc' maxL' none (.ref k :: as) N rf h res N1 rf1 h1) (hd : d' < d) (hn : as.length = n) (hst : (st.map fun v => v.category).sum ≤ 8) (hlim : N1 ≤ N') {stk : List Value} (hs : as.reverse ++ .ref k :: st = stk) (dg : decode cc pc = .ok (.invokespecial idx, 3)) (K : J (pc + 3) lv (res.toList ++ st) N1 rf1 h1) : J pc lv stk N rf h := by
  obtain ⟨p, e, R, s, m, args, below, meth, c, Q, rfl, hx, hb, hml, hown, hts, hK, hini, hfr, hlo, hce, hsl, hret⟩ := X
  subst hs
  intro hN0 H locs ls hW hS hl
  have hcn := va_cnB (R := R) (args := args) (own := own) (host := host) (index := idx) (mc := N1 - N) (ms := zsz N1 - zsz N) (rm := zrm d' (N1 - N) (zsz N1 - zsz N)) n hts (zGood my) rfl rfl rfl (hK.2.2.2.2 _ lk.1) (hts _ my.2.2.1) ⟨my.2.2.2.1, my.2.2.2.2.1, my.2.2.2.2.2.1⟩ ⟨show d' + 1 ≤ R.frames by omega, by have := my.2.2.2.2.2.2; show 8 + (maxL' + 11) + 64 * d' ≤ R.locals; omega⟩
  have hrun := va_runIN (p := p) (l := l) (e := e) (below := below) (meth := meth) (locs := locs) (cells := N - N0) (slots := zsz N - zsz N0) (H := H) (g := F0 m pc ls ((as.reverse ++ .ref k :: st).map (zrv S0))) (b := S0 + k) (As := as.map (zrv S0)) (rest := st.map (zrv S0)) (Ts := zT) ⟨hx, hb, hml, hown, hts⟩ hc.2 ⟨hcn, lk.2.2, hts _ lk.2.1⟩ ⟨zPc_blind, fun U hU hWm => ⟨rfl, by rw [hU]; exact hW, hK.warm hWm⟩⟩ rfl (by simpa using hn) hl.1 (by simp [zrv]) (lv_room (zcat8 S0 hst)) dg (by have := hc.1; have := zsz_mono hc.1; have := zsz_mono hN0; have := zsz_mono hlim; exact ⟨by omega, by omega⟩)
  intro T hT X
  obtain ⟨v, st₀, t, T', L, h0, X2, hL, e1, e2, ⟨hv, hW1, hF⟩, stp⟩ := hrun T hT X
  cases hv
  have hNN := hc.1
  have hm0 := zsz_mono hN0
  have hm1 := zsz_mono hNN
  have c1 : N - N0 + (N1 - N) = N1 - N0 := by omega
  have c2 : zsz N - zsz N0 + (zsz N1 - zsz N) = zsz N1 - zsz N0 := by omega
  rw [c1, c2] at X2
  have hS2 : va_S (fun q => S0 ≤ q) s.heap T'.heap (locs ++ L) := by
    refine ⟨Nat.le_trans hS.1 ?_, fun q h1 h2 => ?_, fun q hq => ?_⟩
    · rw [e1, ← h0]; exact hF.1
    · rw [e1, hF.2 q (by rw [h0]; exact Nat.lt_of_lt_of_le h1 hS.1) h2, h0]; exact hS.2.1 q h1 h2
    · rcases List.mem_append.mp hq with z | z
      · exact hS.2.2 q z
      · exact hL q z
  obtain ⟨t2, a1, b1⟩ := K (by omega) T'.heap (locs ++ L) ls (by rw [e1]; exact hW1) hS2 hl T' rfl X2
  refine ⟨t2, stp t2 ?_, b1⟩
  have hs : (res.toList ++ st).map (zrv S0) = (res.map (zrv S0)).toList ++ st.map (zrv S0) := by cases res <;> simp
  rw [hs] at a1
  exact a1
end ZH

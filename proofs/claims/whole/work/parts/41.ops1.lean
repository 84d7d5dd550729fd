/-! ===== the simple calls ===== -/
theorem zrd (h : zHp) (k i : Nat) (x : Int32) (a : Nat) : (zwi h k i x).1 a = if a = k then upd (h.1 k) i x else h.1 a := by
  by_cases ha : a = k
  · subst ha; rw [zwi_self, if_pos rfl]
  · rw [zwi_ne a ha, if_neg ha]
theorem zud (f : Nat → Int32) (i : Nat) (x : Int32) (j : Nat) : upd f i x j = if j = i then x else f j := rfl
theorem zuiA {n m : Nat} (hm : m < n) (hn : n < 2 ^ 31) (h : zHp) (k : Nat) (x : Int32) : zui h k n (nI m) x = some (zwi h k m x) := zui_ok hm hn
theorem zriA {n m : Nat} (hm : m < n) (hn : n < 2 ^ 31) (h : zHp) (k : Nat) : zri h k n (nI m) = some (h.1 k m) := zri_ok hm hn
theorem z10 : ¬ (1 : Int32) = 0 := by decide
theorem zIl_mono {h : zHp} {n k t k' t' : Nat} (hk : k ≤ k') (ht : t ≤ t') (hl : zIl h n k t) : zIl h n k' t' := by
  obtain ⟨h1, h2, h3, h4⟩ := hl
  refine ⟨h1, h2, fun i hi => ?_, h4⟩
  obtain ⟨⟨a, a1, a2⟩, b, ⟨c, c1, c2⟩, ⟨e, e1, e2⟩, f⟩ := h3 i hi
  refine ⟨⟨a, by omega, a2⟩, b, ⟨c, by omega, c2⟩, ⟨e, by omega, e2⟩, ?_⟩
  rcases f with f | ⟨g, g1, g2⟩
  · exact Or.inl f
  · exact Or.inr ⟨g, by omega, g2⟩
/-- a number between, as a count -/
theorem znat {x : Int32} {a b : Nat} (h1 : (a : Int) ≤ x.toInt) (h2 : x.toInt ≤ (b : Int)) : ∃ j, a ≤ j ∧ j ≤ b ∧ x = nI j := by
  refine ⟨x.toInt.toNat, by omega, by omega, ?_⟩
  apply Int32.toInt_inj.mp
  have hlt := Int32.toInt_lt x
  rw [nI_toInt (by omega)]
  omega
theorem op_days (a1 : Int32) {h : zHp} (hI : zI h) : zop (s_X9_days a1) (s_X10_days a1) h := by
  have hI0 := hI
  obtain ⟨t, nc, nk, nl, nt, np, ⟨d1, d2, d3⟩, h2, h3, h4, h5, h6, h7, h8, h9⟩ := hI
  by_cases c1 : (1 : Int32) ≤ a1
  · by_cases c2 : a1 ≤ 1500 - h.1 0 14
    · have c2' : a1 ≤ 1500 - h.1 67 0 := by rw [d2, ← d1]; exact c2
      obtain ⟨j, j1, j2, rfl⟩ : ∃ j, 1 ≤ j ∧ j ≤ 1500 - t ∧ a1 = nI j := by
        rw [Int32.le_iff_toInt_le] at c1 c2
        rw [d1, show (1500 : Int32) = nI 1500 from by decide, pk_sub_toInt (by omega) (by omega)] at c2
        exact znat (a := 1) (b := 1500 - t) c1 (by omega)
      have e1 : h.1 0 14 + nI j = nI (t + j) := by rw [d1, nI_add]
      have e2 : h.1 67 0 + nI j = nI (t + j) := by rw [d2, nI_add]
      refine zop_ok (r := nI (t + j)) (h1 := zwi h 0 14 (nI (t + j))) (h2 := zwi (zwi h 0 14 (nI (t + j))) 67 0 (nI (t + j))) ?_ ?_ ?_
      · unfold s_X9_days
        rw [if_pos c1, if_pos c2, e1]
        rfl
      · unfold s_X10_days
        rw [if_pos c1, if_pos (show nI j ≤ 1500 - (zwi h 0 14 (nI (t + j))).1 67 0 from c2'), show (zwi h 0 14 (nI (t + j))).1 67 0 = h.1 67 0 from rfl, e2]
        rfl
      · exact ⟨t + j, nc, nk, nl, nt, np, ⟨rfl, rfl, by omega⟩, h2, h3, h4, h5, zIl_mono (h := zwi (zwi h 0 14 (nI (t + j))) 67 0 (nI (t + j))) (Nat.le_refl _) (Nat.le_add_right t j) h6, h7, h8, h9⟩
    · refine zop_r6 hI0 ?_ ?_
      · unfold s_X9_days
        rw [if_pos c1, if_neg c2, zbq]
      · unfold s_X10_days
        rw [if_pos c1, if_neg (show ¬ a1 ≤ 1500 - (zr1 h 6).1 67 0 from fun z => c2 (by rw [d1, ← d2]; exact z)), zbq]
  · refine zop_r4 hI0 ?_ ?_
    · unfold s_X9_days
      rw [if_neg c1, zbq]
    · unfold s_X10_days
      rw [if_neg c1, zbq]
theorem e_X0_full0 {h : zHp} {n : Nat} (hn : h.1 6 6 = nI n) (hlt : n < 40) : s_X0_isFull h = some (0, h) := by
  unfold s_X0_isFull s_X0_isFull_L14
  rw [hn, if_pos (show nI n < 40 from nI_lt (b := 40) hlt (by decide)), zbs zbo0]
theorem e_X0_full1 {h : zHp} (hn : h.1 6 6 = nI 40) : s_X0_isFull h = some (1, h) := by
  unfold s_X0_isFull s_X0_isFull_L14
  rw [hn, if_neg (by decide), zbs zbo1]
theorem e_X0_add {h : zHp} {n : Nat} {a1 a2 a3 : Int32} (hn : h.1 6 6 = nI n) (hlt : n < 40) : s_X0_add a1 a2 a3 h = some (nI n, zwi (zwi (zwi (zwi h 7 n a1) 8 n a2) 9 n a3) 6 6 (nI (n + 1))) := by
  simp only [s_X0_add, hn, zuiA hlt (by decide : 40 < 2 ^ 31), zrd, Nat.reduceEqDiff, reduceIte, Option.bind_some, zpi, nI_1]
theorem e_X10_addcode {h : zHp} {n : Nat} {a1 a2 a3 : Int32} (hn : h.1 67 1 = nI n) (hlt : n < 40) : ((zui h 68 40 (h.1 67 1) a1).bind fun h8 => (zui h8 69 40 (h8.1 67 1) a2).bind fun h9 => (zui h9 70 40 (h9.1 67 1) a3).bind fun h10 => (zui h10 71 40 (h10.1 67 1) (-1 : Int32)).bind fun h11 => (some ((h11.1 67 1) + (1 : Int32))).bind fun v12 => (zpi h11 67 1 v12).bind fun h13 => some ((h13.1 67 1) - (1 : Int32), h13)) = some (nI n, zwi (zwi (zwi (zwi (zwi h 68 n a1) 69 n a2) 70 n a3) 71 n (-1)) 67 1 (nI (n + 1))) := by
  simp only [hn, zuiA hlt (by decide : 40 < 2 ^ 31), zrd, Nat.reduceEqDiff, reduceIte, Option.bind_some, zpi, nI_1, zud, nI_pred]
theorem op_code (a1 a2 a3 : Int32) {h : zHp} (hI : zI h) : zop (s_X9_code a1 a2 a3) (s_X10_code a1 a2 a3) h := by
  have hI0 := hI
  obtain ⟨t, nc, nk, nl, nt, np, ⟨d1, d2, d3⟩, ⟨⟨k1, k2, k3⟩, ⟨x1, x2, x3, x4, x5⟩, y1, y2, y3, y4, y5⟩, h3, h4, h5, h6, h7, h8, h9⟩ := hI
  rcases zix a1 (n := 5) (by decide) with ⟨hc, hc'⟩ | ⟨g, hg, rfl, g1, g2, g3⟩
  · refine zop_r1 hI0 ?_ ?_
    · unfold s_X9_code
      rw [zbs (e_wi0 (b := 5) hc), if_pos rfl, zbq]
    · unfold s_X10_code
      rw [zbs (e_in0 (b := 0) (c := 4) hc'), if_pos rfl, zbq]
  · have w1 : ∀ h', s_X9_isWithin (nI g) 5 h' = some (1, h') := fun h' => e_wi1 g1 g2
    have w2 : ∀ h', s_X10_in (nI g) 0 4 h' = some (1, h') := fun h' => e_in1 g1 g3
    by_cases c1 : a2 < 0
    · refine zop_r4 hI0 ?_ ?_
      · unfold s_X9_code s_X9_code_L26
        rw [zbs (w1 h), if_neg z10, if_pos c1, zbq]
      · unfold s_X10_code s_X10_code_L27
        rw [zbs (w2 _), if_neg z10, if_pos c1, zbq]
    · by_cases c2 : h.1 0 14 ≤ a3
      · have c2' : h.1 67 0 ≤ a3 := by rw [d2, ← d1]; exact c2
        by_cases c3 : (50 : Int32) < a2
        · refine zop_r6 hI0 ?_ ?_
          · unfold s_X9_code s_X9_code_L56
            rw [zbs (w1 h), if_neg z10, if_neg c1, if_pos c2, if_pos c3, zbq]
          · unfold s_X10_code s_X10_code_L56
            rw [zbs (w2 _), if_neg z10, if_neg c1, if_pos (show (zr1 h 6).1 67 0 ≤ a3 from c2'), if_pos c3, zbq]
        · by_cases c4 : (1500 : Int32) < a3
          · refine zop_r6 hI0 ?_ ?_
            · unfold s_X9_code s_X9_code_L56
              rw [zbs (w1 h), if_neg z10, if_neg c1, if_pos c2, if_neg c3, if_pos c4, zbq]
            · unfold s_X10_code s_X10_code_L56
              rw [zbs (w2 _), if_neg z10, if_neg c1, if_pos (show (zr1 h 6).1 67 0 ≤ a3 from c2'), if_neg c3, if_pos c4, zbq]
          · by_cases c5 : nc = 40
            · subst c5
              refine zop_r6 hI0 ?_ ?_
              · unfold s_X9_code s_X9_code_L56
                rw [zbs (w1 h), if_neg z10, if_neg c1, if_pos c2, if_neg c3, if_neg c4, zbs (e_X0_full1 k1), if_neg z10, zbq]
              · unfold s_X10_code s_X10_code_L56
                rw [zbs (w2 _), if_neg z10, if_neg c1, if_pos (show (zr1 h 6).1 67 0 ≤ a3 from c2'), if_neg c3, if_neg c4, if_pos (show (zr1 h 6).1 67 1 = 40 from k2), zbq]
            · have hlt : nc < 40 := by omega
              refine zop_ok (r := nI nc) (h1 := zwi (zwi (zwi (zwi h 7 nc (nI g)) 8 nc a2) 9 nc a3) 6 6 (nI (nc + 1))) (h2 := zwi (zwi (zwi (zwi (zwi (zwi (zwi (zwi (zwi h 7 nc (nI g)) 8 nc a2) 9 nc a3) 6 6 (nI (nc + 1))) 68 nc (nI g)) 69 nc a2) 70 nc a3) 71 nc (-1)) 67 1 (nI (nc + 1))) ?_ ?_ ?_
              · unfold s_X9_code
                rw [zbs (w1 h), if_neg z10, if_neg c1, if_pos c2, if_neg c3, if_neg c4, zbs (e_X0_full0 k1 hlt), if_pos rfl, zbs (e_X0_add k1 hlt)]
              · unfold s_X10_code
                rw [zbs (w2 _), if_neg z10, if_neg c1, if_pos (show (zwi (zwi (zwi (zwi h 7 nc (nI g)) 8 nc a2) 9 nc a3) 6 6 (nI (nc + 1))).1 67 0 ≤ a3 from c2'), if_neg c3, if_neg c4, if_neg (show ¬ (zwi (zwi (zwi (zwi h 7 nc (nI g)) 8 nc a2) 9 nc a3) 6 6 (nI (nc + 1))).1 67 1 = 40 from fun z => by
                  rw [show (zwi (zwi (zwi (zwi h 7 nc (nI g)) 8 nc a2) 9 nc a3) 6 6 (nI (nc + 1))).1 67 1 = nI nc from k2] at z
                  exact c5 ((nI_eq (b := 40) (by omega) (by decide)).mp z))]
                exact e_X10_addcode k2 hlt
              · obtain ⟨p, p1, p2, rfl⟩ : ∃ p, 0 ≤ p ∧ p ≤ 50 ∧ a2 = nI p := by
                  rw [Int32.lt_iff_toInt_lt] at c1 c3
                  have e50 : (50 : Int32).toInt = 50 := by decide
                  rw [Int32.toInt_zero] at c1
                  exact znat (a := 0) (b := 50) (by omega) (by omega)
                refine ⟨t, nc + 1, nk, nl, nt, np, ⟨d1, d2, d3⟩, ⟨⟨rfl, rfl, by omega⟩, ⟨?_, ?_, ?_, x4, x5⟩, ?_, ?_, ?_, ?_, y5⟩, h3, h4, h5, h6, h7, h8, h9⟩
                · show upd (h.1 7) nc (nI g) = upd (h.1 68) nc (nI g)
                  rw [x1]
                · show upd (h.1 8) nc (nI p) = upd (h.1 69) nc (nI p)
                  rw [x2]
                · show upd (h.1 9) nc a3 = upd (h.1 70) nc a3
                  rw [x3]
                · intro i hi
                  show ∃ g', g' < 5 ∧ upd (h.1 7) nc (nI g) i = nI g'
                  by_cases e : i = nc
                  · exact ⟨g, hg, by rw [e, pk_us]⟩
                  · rw [pk_un e]; exact y1 i (by omega)
                · intro i hi
                  show ∃ p', p' ≤ 50 ∧ upd (h.1 8) nc (nI p) i = nI p'
                  by_cases e : i = nc
                  · exact ⟨p, p2, by rw [e, pk_us]⟩
                  · rw [pk_un e]; exact y2 i (by omega)
                · intro i hi
                  show upd (h.1 71) nc (-1) i = h.1 10 i ∧ (h.1 10 i = -1 ∨ ∃ j, i < j ∧ j < nc + 1 ∧ h.1 10 i = nI j)
                  by_cases e : i = nc
                  · rw [e, pk_us]
                    have := y4 nc (Nat.le_refl _) (by omega)
                    exact ⟨this.symm, Or.inl this⟩
                  · rw [pk_un e]
                    obtain ⟨z1, z2⟩ := y3 i (by omega)
                    exact ⟨z1, z2.imp id (fun ⟨j, q1, q2, q3⟩ => ⟨j, q1, by omega, q3⟩)⟩
                · intro i hi hi2
                  exact y4 i (by omega) hi2
      · refine zop_r4 hI0 ?_ ?_
        · unfold s_X9_code s_X9_code_L26
          rw [zbs (w1 h), if_neg z10, if_neg c1, if_neg c2, zbq]
        · unfold s_X10_code s_X10_code_L27
          rw [zbs (w2 _), if_neg z10, if_neg c1, if_neg (show ¬ (zr1 h 4).1 67 0 ≤ a3 from fun z => c2 (by rw [d1, ← d2]; exact z)), zbq]

section ZX
variable {l : Launch} {D : va_G} {cy : Nat → ClassId} {S0 d : Nat} {own : String} {cc : ByteArray} {nL : Nat} {ini : Bool} {N0 N' : Nat} {ret : Option FieldType} {RT : Option Value → Nat → zRf → zHp → Prop} {J : zJ} {pc : Nat} {lv : List (Nat × Value)} {st : List Value} {N : Nat} {rf : zRf} {h : zHp}
theorem zb {α β : Type} {x : Option α} {f : α → Option β} {r : β} {P : Prop} (e : x.bind f = some r) (k : ∀ a, x = some a → f a = some r → P) : P := by
  cases x with
  | none => cases e
  | some a => exact k a rfl e
theorem zit {α : Type} {c : Prop} [Decidable c] {a b r : Option α} (e : (if c then a else b) = r) (hc : c) : a = r := by rw [if_pos hc] at e; exact e
theorem zif {α : Type} {c : Prop} [Decidable c] {a b r : Option α} (e : (if c then a else b) = r) (hc : ¬ c) : b = r := by rw [if_neg hc] at e; exact e
def zpi (h : zHp) (k j : Nat) (x : Int32) : Option zHp := some (zwi h k j x)
def zpl (h : zHp) (k j : Nat) (x : Int64) : Option zHp := some (zwl h k j x)
def zbo (x : Int32) : Option Unit := if narrow .boolean (.int x) = .int x then some () else none
theorem zbo_ok {x : Int32} {u : Unit} (h : zbo x = some u) : narrow .boolean (.int x) = .int x := by
  unfold zbo at h
  split at h
  · assumption
  · cases h
theorem zbo_0 : narrow .boolean (.int 0) = .int 0 := by decide
theorem zbo_1 : narrow .boolean (.int 1) = .int 1 := by decide
abbrev zRT (N : Nat) (rf : zRf) (v : Option Value) (h : zHp) : Option Value → Nat → zRf → zHp → Prop := fun w n r g => w = v ∧ n = N ∧ r = rf ∧ g = h
def zFU : Nat := 4611686018427387904
theorem zv_nmI (X : zOK l D cy S0 d own cc nL ini N0 N' ret RT J) {E x : Int32} (hx : some E = some x) (K : J pc lv (.int x :: st) N rf h) : J pc lv (.int E :: st) N rf h := by cases hx; exact K
theorem zv_nmJ (X : zOK l D cy S0 d own cc nL ini N0 N' ret RT J) {E x : Int64} (hx : some E = some x) (K : J pc lv (.long x :: st) N rf h) : J pc lv (.long E :: st) N rf h := by cases hx; exact K
theorem zv_putI' (X : zOK l D cy S0 d own cc nL ini N0 N' ret RT J) {idx ci j k : Nat} {x : Int32} {h1 : zHp} (hf : zFL own idx ci j .int false) (hk : zkd k = ci) (hkN : k < N) (dg : decode cc pc = .ok (.putfield idx, 3)) (hh : zpi h k j x = some h1) (K : J (pc + 3) lv st N rf h1) : J pc lv (.int x :: .ref k :: st) N rf h := by cases hh; exact zv_putI X hf hk hkN dg K
theorem zv_putL' (X : zOK l D cy S0 d own cc nL ini N0 N' ret RT J) {idx ci j k : Nat} {x : Int64} {h1 : zHp} (hf : zFL own idx ci j .long false) (hk : zkd k = ci) (hkN : k < N) (dg : decode cc pc = .ok (.putfield idx, 3)) (hh : zpl h k j x = some h1) (K : J (pc + 3) lv st N rf h1) : J pc lv (.long x :: .ref k :: st) N rf h := by cases hh; exact zv_putL X hf hk hkN dg K
theorem zv_retI {q : Int32 × zHp} {x : Int32} (X : zOK l D cy S0 d own cc nL ini N0 N' ret (zRT N rf (some (.int q.1)) q.2) J) (e : some (x, h) = some q) (hr : ret = some .int) (dg : decode cc pc = .ok (.ireturn, 1)) : J pc lv [.int x] N rf h := by
  cases e
  exact zv_ret X (some (.int x)) rfl ⟨rfl, rfl, rfl, rfl⟩ ⟨dg, Or.inl hr⟩
theorem zv_retZ {q : Int32 × zHp} {x : Int32} (X : zOK l D cy S0 d own cc nL ini N0 N' ret (zRT N rf (some (.int q.1)) q.2) J) (e : some (x, h) = some q) (hr : ret = some .boolean) (hz : narrow .boolean (.int x) = .int x) (dg : decode cc pc = .ok (.ireturn, 1)) : J pc lv [.int x] N rf h := by
  cases e
  exact zv_ret X (some (.int x)) rfl ⟨rfl, rfl, rfl, rfl⟩ ⟨dg, Or.inr ⟨hr, hz⟩⟩
theorem zv_retL {q : Int64 × zHp} {x : Int64} (X : zOK l D cy S0 d own cc nL ini N0 N' ret (zRT N rf (some (.long q.1)) q.2) J) (e : some (x, h) = some q) (hr : ret = some .long) (dg : decode cc pc = .ok (.lreturn, 1)) : J pc lv [.long x] N rf h := by
  cases e
  exact zv_ret X (some (.long x)) rfl ⟨rfl, rfl, rfl, rfl⟩ ⟨dg, hr⟩
theorem zv_retV {q : zHp} (X : zOK l D cy S0 d own cc nL ini N0 N' ret (zRT N rf none q) J) (e : some h = some q) (hr : ret = none) (dg : decode cc pc = .ok (.return_, 1)) : J pc lv [] N rf h := by
  cases e
  exact zv_ret X none rfl ⟨rfl, rfl, rfl, rfl⟩ ⟨hr, dg⟩
theorem zv_retR {q : zHp} {a : Nat} (X : zOK l D cy S0 d own cc nL ini N0 N' ret (zRT N rf (some (.ref a)) q) J) (e : some h = some q) (hr : ∃ n, ret = some (.object n)) (dg : decode cc pc = .ok (.areturn, 1)) : J pc lv [.ref a] N rf h := by
  cases e
  exact zv_ret X (some (.ref a)) rfl ⟨rfl, rfl, rfl, rfl⟩ ⟨dg, hr⟩
end ZX
theorem znt_a {t : FieldType} : FieldType.array t ≠ .int ∧ FieldType.array t ≠ .long := ⟨fun z => (by cases z), fun z => (by cases z)⟩
theorem znt_o {n : String} : FieldType.object n ≠ .int ∧ FieldType.object n ≠ .long := ⟨fun z => (by cases z), fun z => (by cases z)⟩
theorem zbp_m9 : (Int8.ofInt (-9)).toInt32 = (-9 : Int32) := by decide
theorem zbp_m7 : (Int8.ofInt (-7)).toInt32 = (-7 : Int32) := by decide
theorem zbp_m6 : (Int8.ofInt (-6)).toInt32 = (-6 : Int32) := by decide
theorem zbp_m4 : (Int8.ofInt (-4)).toInt32 = (-4 : Int32) := by decide
theorem zbp_m3 : (Int8.ofInt (-3)).toInt32 = (-3 : Int32) := by decide
theorem zbp_m2 : (Int8.ofInt (-2)).toInt32 = (-2 : Int32) := by decide
theorem zbp_6 : (Int8.ofInt (6)).toInt32 = (6 : Int32) := by decide
theorem zbp_7 : (Int8.ofInt (7)).toInt32 = (7 : Int32) := by decide
theorem zbp_8 : (Int8.ofInt (8)).toInt32 = (8 : Int32) := by decide
theorem zbp_9 : (Int8.ofInt (9)).toInt32 = (9 : Int32) := by decide
theorem zbp_10 : (Int8.ofInt (10)).toInt32 = (10 : Int32) := by decide
theorem zbp_11 : (Int8.ofInt (11)).toInt32 = (11 : Int32) := by decide
theorem zbp_12 : (Int8.ofInt (12)).toInt32 = (12 : Int32) := by decide
theorem zbp_15 : (Int8.ofInt (15)).toInt32 = (15 : Int32) := by decide
theorem zbp_16 : (Int8.ofInt (16)).toInt32 = (16 : Int32) := by decide
theorem zbp_17 : (Int8.ofInt (17)).toInt32 = (17 : Int32) := by decide
theorem zbp_20 : (Int8.ofInt (20)).toInt32 = (20 : Int32) := by decide
theorem zbp_25 : (Int8.ofInt (25)).toInt32 = (25 : Int32) := by decide
theorem zbp_30 : (Int8.ofInt (30)).toInt32 = (30 : Int32) := by decide
theorem zbp_36 : (Int8.ofInt (36)).toInt32 = (36 : Int32) := by decide
theorem zbp_37 : (Int8.ofInt (37)).toInt32 = (37 : Int32) := by decide
theorem zbp_40 : (Int8.ofInt (40)).toInt32 = (40 : Int32) := by decide
theorem zbp_50 : (Int8.ofInt (50)).toInt32 = (50 : Int32) := by decide
theorem zbp_60 : (Int8.ofInt (60)).toInt32 = (60 : Int32) := by decide
theorem zbp_63 : (Int8.ofInt (63)).toInt32 = (63 : Int32) := by decide
theorem zbp_64 : (Int8.ofInt (64)).toInt32 = (64 : Int32) := by decide
theorem zbp_72 : (Int8.ofInt (72)).toInt32 = (72 : Int32) := by decide
theorem zbp_80 : (Int8.ofInt (80)).toInt32 = (80 : Int32) := by decide
theorem zbp_99 : (Int8.ofInt (99)).toInt32 = (99 : Int32) := by decide
theorem zbp_100 : (Int8.ofInt (100)).toInt32 = (100 : Int32) := by decide
theorem zbp_101 : (Int8.ofInt (101)).toInt32 = (101 : Int32) := by decide
theorem zic_m1 : Int32.ofInt (-1) = (-1 : Int32) := by decide
theorem zic_0 : Int32.ofInt (0) = (0 : Int32) := by decide
theorem zic_1 : Int32.ofInt (1) = (1 : Int32) := by decide
theorem zic_2 : Int32.ofInt (2) = (2 : Int32) := by decide
theorem zic_3 : Int32.ofInt (3) = (3 : Int32) := by decide
theorem zic_4 : Int32.ofInt (4) = (4 : Int32) := by decide
theorem zic_5 : Int32.ofInt (5) = (5 : Int32) := by decide
theorem zsp_160 : (Int16.ofInt (160)).toInt32 = (160 : Int32) := by decide
theorem zsp_200 : (Int16.ofInt (200)).toInt32 = (200 : Int32) := by decide
theorem zsp_255 : (Int16.ofInt (255)).toInt32 = (255 : Int32) := by decide
theorem zsp_400 : (Int16.ofInt (400)).toInt32 = (400 : Int32) := by decide
theorem zsp_512 : (Int16.ofInt (512)).toInt32 = (512 : Int32) := by decide
theorem zsp_720 : (Int16.ofInt (720)).toInt32 = (720 : Int32) := by decide
theorem zsp_999 : (Int16.ofInt (999)).toInt32 = (999 : Int32) := by decide
theorem zsp_1500 : (Int16.ofInt (1500)).toInt32 = (1500 : Int32) := by decide
theorem zsp_1501 : (Int16.ofInt (1501)).toInt32 = (1501 : Int32) := by decide
theorem zsp_3200 : (Int16.ofInt (3200)).toInt32 = (3200 : Int32) := by decide
theorem zsp_9999 : (Int16.ofInt (9999)).toInt32 = (9999 : Int32) := by decide
theorem zsp_10007 : (Int16.ofInt (10007)).toInt32 = (10007 : Int32) := by decide
theorem zk_0 : zkd 0 = 9 := by decide +kernel
theorem zl_0 : zln 0 = 16 := by decide +kernel
theorem zb_0 : 0 < 117 := by decide
theorem zk_1 : zkd 1 = 11 := by decide +kernel
theorem zl_1 : zln 1 = 8 := by decide +kernel
theorem zb_1 : 1 < 117 := by decide
theorem zk_2 : zkd 2 = 13 := by decide +kernel
theorem zl_2 : zln 2 = 50 := by decide +kernel
theorem zb_2 : 2 < 117 := by decide
theorem zk_3 : zkd 3 = 11 := by decide +kernel
theorem zl_3 : zln 3 = 4 := by decide +kernel
theorem zb_3 : 3 < 117 := by decide
theorem zk_4 : zkd 4 = 11 := by decide +kernel
theorem zl_4 : zln 4 = 20 := by decide +kernel
theorem zb_4 : 4 < 117 := by decide
theorem zk_5 : zkd 5 = 11 := by decide +kernel
theorem zl_5 : zln 5 = 5 := by decide +kernel
theorem zb_5 : 5 < 117 := by decide
theorem zk_6 : zkd 6 = 0 := by decide +kernel
theorem zl_6 : zln 6 = 7 := by decide +kernel
theorem zb_6 : 6 < 117 := by decide
theorem zk_7 : zkd 7 = 11 := by decide +kernel
theorem zl_7 : zln 7 = 40 := by decide +kernel
theorem zb_7 : 7 < 117 := by decide
theorem zk_8 : zkd 8 = 11 := by decide +kernel
theorem zl_8 : zln 8 = 40 := by decide +kernel
theorem zb_8 : 8 < 117 := by decide
theorem zk_9 : zkd 9 = 11 := by decide +kernel
theorem zl_9 : zln 9 = 40 := by decide +kernel
theorem zb_9 : 9 < 117 := by decide
theorem zk_10 : zkd 10 = 11 := by decide +kernel
theorem zl_10 : zln 10 = 40 := by decide +kernel
theorem zb_10 : 10 < 117 := by decide
theorem zk_11 : zkd 11 = 11 := by decide +kernel
theorem zl_11 : zln 11 = 40 := by decide +kernel
theorem zb_11 : 11 < 117 := by decide
theorem zk_12 : zkd 12 = 11 := by decide +kernel
theorem zl_12 : zln 12 = 5 := by decide +kernel
theorem zb_12 : 12 < 117 := by decide
theorem zk_13 : zkd 13 = 4 := by decide +kernel
theorem zl_13 : zln 13 = 11 := by decide +kernel
theorem zb_13 : 13 < 117 := by decide
theorem zk_14 : zkd 14 = 11 := by decide +kernel
theorem zl_14 : zln 14 = 20 := by decide +kernel
theorem zb_14 : 14 < 117 := by decide
theorem zk_15 : zkd 15 = 11 := by decide +kernel
theorem zl_15 : zln 15 = 20 := by decide +kernel
theorem zb_15 : 15 < 117 := by decide
theorem zk_16 : zkd 16 = 11 := by decide +kernel
theorem zl_16 : zln 16 = 20 := by decide +kernel
theorem zb_16 : 16 < 117 := by decide
theorem zk_17 : zkd 17 = 11 := by decide +kernel
theorem zl_17 : zln 17 = 20 := by decide +kernel
theorem zb_17 : 17 < 117 := by decide
theorem zk_18 : zkd 18 = 11 := by decide +kernel
theorem zl_18 : zln 18 = 20 := by decide +kernel
theorem zb_18 : 18 < 117 := by decide
theorem zk_19 : zkd 19 = 11 := by decide +kernel
theorem zl_19 : zln 19 = 20 := by decide +kernel
theorem zb_19 : 19 < 117 := by decide
theorem zk_20 : zkd 20 = 13 := by decide +kernel
theorem zl_20 : zln 20 = 20 := by decide +kernel
theorem zb_20 : 20 < 117 := by decide
theorem zk_21 : zkd 21 = 11 := by decide +kernel
theorem zl_21 : zln 21 = 20 := by decide +kernel
theorem zb_21 : 21 < 117 := by decide
theorem zk_22 : zkd 22 = 11 := by decide +kernel
theorem zl_22 : zln 22 = 160 := by decide +kernel
theorem zb_22 : 22 < 117 := by decide
theorem zk_23 : zkd 23 = 11 := by decide +kernel
theorem zl_23 : zln 23 = 160 := by decide +kernel
theorem zb_23 : 23 < 117 := by decide
theorem zk_24 : zkd 24 = 5 := by decide +kernel
theorem zl_24 : zln 24 = 10 := by decide +kernel
theorem zb_24 : 24 < 117 := by decide
theorem zk_25 : zkd 25 = 11 := by decide +kernel
theorem zl_25 : zln 25 = 80 := by decide +kernel
theorem zb_25 : 25 < 117 := by decide
theorem zk_26 : zkd 26 = 11 := by decide +kernel
theorem zl_26 : zln 26 = 80 := by decide +kernel
theorem zb_26 : 26 < 117 := by decide
theorem zk_27 : zkd 27 = 11 := by decide +kernel
theorem zl_27 : zln 27 = 80 := by decide +kernel
theorem zb_27 : 27 < 117 := by decide
theorem zk_28 : zkd 28 = 11 := by decide +kernel
theorem zl_28 : zln 28 = 80 := by decide +kernel
theorem zb_28 : 28 < 117 := by decide
theorem zk_29 : zkd 29 = 11 := by decide +kernel
theorem zl_29 : zln 29 = 80 := by decide +kernel
theorem zb_29 : 29 < 117 := by decide
theorem zk_30 : zkd 30 = 11 := by decide +kernel
theorem zl_30 : zln 30 = 3200 := by decide +kernel
theorem zb_30 : 30 < 117 := by decide
theorem zk_31 : zkd 31 = 11 := by decide +kernel
theorem zl_31 : zln 31 = 5 := by decide +kernel
theorem zb_31 : 31 < 117 := by decide
theorem zk_32 : zkd 32 = 6 := by decide +kernel
theorem zl_32 : zln 32 = 3 := by decide +kernel
theorem zb_32 : 32 < 117 := by decide
theorem zk_33 : zkd 33 = 11 := by decide +kernel
theorem zl_33 : zln 33 = 10 := by decide +kernel
theorem zb_33 : 33 < 117 := by decide
theorem zk_34 : zkd 34 = 11 := by decide +kernel
theorem zl_34 : zln 34 = 40 := by decide +kernel
theorem zb_34 : 34 < 117 := by decide
theorem zk_35 : zkd 35 = 8 := by decide +kernel
theorem zl_35 : zln 35 = 12 := by decide +kernel
theorem zb_35 : 35 < 117 := by decide
theorem zk_36 : zkd 36 = 11 := by decide +kernel
theorem zl_36 : zln 36 = 6 := by decide +kernel
theorem zb_36 : 36 < 117 := by decide
theorem zk_37 : zkd 37 = 11 := by decide +kernel
theorem zl_37 : zln 37 = 6 := by decide +kernel
theorem zb_37 : 37 < 117 := by decide
theorem zk_38 : zkd 38 = 11 := by decide +kernel
theorem zl_38 : zln 38 = 6 := by decide +kernel
theorem zb_38 : 38 < 117 := by decide
theorem zk_39 : zkd 39 = 11 := by decide +kernel
theorem zl_39 : zln 39 = 36 := by decide +kernel
theorem zb_39 : 39 < 117 := by decide
theorem zk_40 : zkd 40 = 11 := by decide +kernel
theorem zl_40 : zln 40 = 6 := by decide +kernel
theorem zb_40 : 40 < 117 := by decide
theorem zk_41 : zkd 41 = 11 := by decide +kernel
theorem zl_41 : zln 41 = 6 := by decide +kernel
theorem zb_41 : 41 < 117 := by decide
theorem zk_42 : zkd 42 = 11 := by decide +kernel
theorem zl_42 : zln 42 = 15 := by decide +kernel
theorem zb_42 : 42 < 117 := by decide
theorem zk_43 : zkd 43 = 11 := by decide +kernel
theorem zl_43 : zln 43 = 512 := by decide +kernel
theorem zb_43 : 43 < 117 := by decide
theorem zk_44 : zkd 44 = 11 := by decide +kernel
theorem zl_44 : zln 44 = 64 := by decide +kernel
theorem zb_44 : 44 < 117 := by decide
theorem zk_45 : zkd 45 = 11 := by decide +kernel
theorem zl_45 : zln 45 = 64 := by decide +kernel
theorem zb_45 : 45 < 117 := by decide
theorem zk_46 : zkd 46 = 3 := by decide +kernel
theorem zl_46 : zln 46 = 6 := by decide +kernel
theorem zb_46 : 46 < 117 := by decide
theorem zk_47 : zkd 47 = 11 := by decide +kernel
theorem zl_47 : zln 47 = 80 := by decide +kernel
theorem zb_47 : 47 < 117 := by decide
theorem zk_48 : zkd 48 = 12 := by decide +kernel
theorem zl_48 : zln 48 = 25 := by decide +kernel
theorem zb_48 : 48 < 117 := by decide
theorem zk_49 : zkd 49 = 12 := by decide +kernel
theorem zl_49 : zln 49 = 5 := by decide +kernel
theorem zb_49 : 49 < 117 := by decide
theorem zk_50 : zkd 50 = 11 := by decide +kernel
theorem zl_50 : zln 50 = 5 := by decide +kernel
theorem zb_50 : 50 < 117 := by decide
theorem zk_51 : zkd 51 = 2 := by decide +kernel
theorem zl_51 : zln 51 = 2 := by decide +kernel
theorem zb_51 : 51 < 117 := by decide
theorem zk_52 : zkd 52 = 1 := by decide +kernel
theorem zl_52 : zln 52 = 8 := by decide +kernel
theorem zb_52 : 52 < 117 := by decide
theorem zk_53 : zkd 53 = 11 := by decide +kernel
theorem zl_53 : zln 53 = 20 := by decide +kernel
theorem zb_53 : 53 < 117 := by decide
theorem zk_54 : zkd 54 = 11 := by decide +kernel
theorem zl_54 : zln 54 = 20 := by decide +kernel
theorem zb_54 : 54 < 117 := by decide
theorem zk_55 : zkd 55 = 11 := by decide +kernel
theorem zl_55 : zln 55 = 20 := by decide +kernel
theorem zb_55 : 55 < 117 := by decide
theorem zk_56 : zkd 56 = 11 := by decide +kernel
theorem zl_56 : zln 56 = 20 := by decide +kernel
theorem zb_56 : 56 < 117 := by decide
theorem zk_57 : zkd 57 = 11 := by decide +kernel
theorem zl_57 : zln 57 = 20 := by decide +kernel
theorem zb_57 : 57 < 117 := by decide
theorem zk_58 : zkd 58 = 2 := by decide +kernel
theorem zl_58 : zln 58 = 2 := by decide +kernel
theorem zb_58 : 58 < 117 := by decide
theorem zk_59 : zkd 59 = 7 := by decide +kernel
theorem zl_59 : zln 59 = 6 := by decide +kernel
theorem zb_59 : 59 < 117 := by decide
theorem zk_60 : zkd 60 = 11 := by decide +kernel
theorem zl_60 : zln 60 = 6 := by decide +kernel
theorem zb_60 : 60 < 117 := by decide
theorem zk_61 : zkd 61 = 11 := by decide +kernel
theorem zl_61 : zln 61 = 72 := by decide +kernel
theorem zb_61 : 61 < 117 := by decide
theorem zk_62 : zkd 62 = 12 := by decide +kernel
theorem zl_62 : zln 62 = 72 := by decide +kernel
theorem zb_62 : 62 < 117 := by decide
theorem zk_63 : zkd 63 = 11 := by decide +kernel
theorem zl_63 : zln 63 = 6 := by decide +kernel
theorem zb_63 : 63 < 117 := by decide
theorem zk_64 : zkd 64 = 11 := by decide +kernel
theorem zl_64 : zln 64 = 6 := by decide +kernel
theorem zb_64 : 64 < 117 := by decide
theorem zk_65 : zkd 65 = 2 := by decide +kernel
theorem zl_65 : zln 65 = 2 := by decide +kernel
theorem zb_65 : 65 < 117 := by decide
theorem zk_66 : zkd 66 = 2 := by decide +kernel
theorem zl_66 : zln 66 = 2 := by decide +kernel
theorem zb_66 : 66 < 117 := by decide
theorem zk_67 : zkd 67 = 10 := by decide +kernel
theorem zl_67 : zln 67 = 62 := by decide +kernel
theorem zb_67 : 67 < 117 := by decide
theorem zk_68 : zkd 68 = 11 := by decide +kernel
theorem zl_68 : zln 68 = 40 := by decide +kernel
theorem zb_68 : 68 < 117 := by decide
theorem zk_69 : zkd 69 = 11 := by decide +kernel
theorem zl_69 : zln 69 = 40 := by decide +kernel
theorem zb_69 : 69 < 117 := by decide
theorem zk_70 : zkd 70 = 11 := by decide +kernel
theorem zl_70 : zln 70 = 40 := by decide +kernel
theorem zb_70 : 70 < 117 := by decide
theorem zk_71 : zkd 71 = 11 := by decide +kernel
theorem zl_71 : zln 71 = 40 := by decide +kernel
theorem zb_71 : 71 < 117 := by decide
theorem zk_72 : zkd 72 = 11 := by decide +kernel
theorem zl_72 : zln 72 = 40 := by decide +kernel
theorem zb_72 : 72 < 117 := by decide
theorem zk_73 : zkd 73 = 11 := by decide +kernel
theorem zl_73 : zln 73 = 5 := by decide +kernel
theorem zb_73 : 73 < 117 := by decide
theorem zk_74 : zkd 74 = 11 := by decide +kernel
theorem zl_74 : zln 74 = 20 := by decide +kernel
theorem zb_74 : 74 < 117 := by decide
theorem zk_75 : zkd 75 = 11 := by decide +kernel
theorem zl_75 : zln 75 = 20 := by decide +kernel
theorem zb_75 : 75 < 117 := by decide
theorem zk_76 : zkd 76 = 11 := by decide +kernel
theorem zl_76 : zln 76 = 20 := by decide +kernel
theorem zb_76 : 76 < 117 := by decide
theorem zk_77 : zkd 77 = 11 := by decide +kernel
theorem zl_77 : zln 77 = 20 := by decide +kernel
theorem zb_77 : 77 < 117 := by decide
theorem zk_78 : zkd 78 = 11 := by decide +kernel
theorem zl_78 : zln 78 = 20 := by decide +kernel
theorem zb_78 : 78 < 117 := by decide
theorem zk_79 : zkd 79 = 13 := by decide +kernel
theorem zl_79 : zln 79 = 20 := by decide +kernel
theorem zb_79 : 79 < 117 := by decide
theorem zk_80 : zkd 80 = 11 := by decide +kernel
theorem zl_80 : zln 80 = 20 := by decide +kernel
theorem zb_80 : 80 < 117 := by decide
theorem zk_81 : zkd 81 = 13 := by decide +kernel
theorem zl_81 : zln 81 = 50 := by decide +kernel
theorem zb_81 : 81 < 117 := by decide
theorem zk_82 : zkd 82 = 11 := by decide +kernel
theorem zl_82 : zln 82 = 80 := by decide +kernel
theorem zb_82 : 82 < 117 := by decide
theorem zk_83 : zkd 83 = 11 := by decide +kernel
theorem zl_83 : zln 83 = 80 := by decide +kernel
theorem zb_83 : 83 < 117 := by decide
theorem zk_84 : zkd 84 = 11 := by decide +kernel
theorem zl_84 : zln 84 = 80 := by decide +kernel
theorem zb_84 : 84 < 117 := by decide
theorem zk_85 : zkd 85 = 11 := by decide +kernel
theorem zl_85 : zln 85 = 80 := by decide +kernel
theorem zb_85 : 85 < 117 := by decide
theorem zk_86 : zkd 86 = 11 := by decide +kernel
theorem zl_86 : zln 86 = 80 := by decide +kernel
theorem zb_86 : 86 < 117 := by decide
theorem zk_87 : zkd 87 = 11 := by decide +kernel
theorem zl_87 : zln 87 = 3200 := by decide +kernel
theorem zb_87 : 87 < 117 := by decide
theorem zk_88 : zkd 88 = 11 := by decide +kernel
theorem zl_88 : zln 88 = 8 := by decide +kernel
theorem zb_88 : 88 < 117 := by decide
theorem zk_89 : zkd 89 = 11 := by decide +kernel
theorem zl_89 : zln 89 = 5 := by decide +kernel
theorem zb_89 : 89 < 117 := by decide
theorem zk_90 : zkd 90 = 11 := by decide +kernel
theorem zl_90 : zln 90 = 10 := by decide +kernel
theorem zb_90 : 90 < 117 := by decide
theorem zk_91 : zkd 91 = 11 := by decide +kernel
theorem zl_91 : zln 91 = 40 := by decide +kernel
theorem zb_91 : 91 < 117 := by decide
theorem zk_92 : zkd 92 = 11 := by decide +kernel
theorem zl_92 : zln 92 = 4 := by decide +kernel
theorem zb_92 : 92 < 117 := by decide
theorem zk_93 : zkd 93 = 11 := by decide +kernel
theorem zl_93 : zln 93 = 6 := by decide +kernel
theorem zb_93 : 93 < 117 := by decide
theorem zk_94 : zkd 94 = 11 := by decide +kernel
theorem zl_94 : zln 94 = 36 := by decide +kernel
theorem zb_94 : 94 < 117 := by decide
theorem zk_95 : zkd 95 = 11 := by decide +kernel
theorem zl_95 : zln 95 = 7 := by decide +kernel
theorem zb_95 : 95 < 117 := by decide
theorem zk_96 : zkd 96 = 11 := by decide +kernel
theorem zl_96 : zln 96 = 6 := by decide +kernel
theorem zb_96 : 96 < 117 := by decide
theorem zk_97 : zkd 97 = 11 := by decide +kernel
theorem zl_97 : zln 97 = 6 := by decide +kernel
theorem zb_97 : 97 < 117 := by decide
theorem zk_98 : zkd 98 = 11 := by decide +kernel
theorem zl_98 : zln 98 = 7 := by decide +kernel
theorem zb_98 : 98 < 117 := by decide
theorem zk_99 : zkd 99 = 11 := by decide +kernel
theorem zl_99 : zln 99 = 15 := by decide +kernel
theorem zb_99 : 99 < 117 := by decide
theorem zk_100 : zkd 100 = 12 := by decide +kernel
theorem zl_100 : zln 100 = 25 := by decide +kernel
theorem zb_100 : 100 < 117 := by decide
theorem zk_101 : zkd 101 = 12 := by decide +kernel
theorem zl_101 : zln 101 = 5 := by decide +kernel
theorem zb_101 : 101 < 117 := by decide
theorem zk_102 : zkd 102 = 11 := by decide +kernel
theorem zl_102 : zln 102 = 5 := by decide +kernel
theorem zb_102 : 102 < 117 := by decide
theorem zk_103 : zkd 103 = 11 := by decide +kernel
theorem zl_103 : zln 103 = 4 := by decide +kernel
theorem zb_103 : 103 < 117 := by decide
theorem zk_104 : zkd 104 = 11 := by decide +kernel
theorem zl_104 : zln 104 = 4 := by decide +kernel
theorem zb_104 : 104 < 117 := by decide
theorem zk_105 : zkd 105 = 11 := by decide +kernel
theorem zl_105 : zln 105 = 5 := by decide +kernel
theorem zb_105 : 105 < 117 := by decide
theorem zk_106 : zkd 106 = 11 := by decide +kernel
theorem zl_106 : zln 106 = 20 := by decide +kernel
theorem zb_106 : 106 < 117 := by decide
theorem zk_107 : zkd 107 = 11 := by decide +kernel
theorem zl_107 : zln 107 = 160 := by decide +kernel
theorem zb_107 : 107 < 117 := by decide
theorem zk_108 : zkd 108 = 11 := by decide +kernel
theorem zl_108 : zln 108 = 160 := by decide +kernel
theorem zb_108 : 108 < 117 := by decide
theorem zk_109 : zkd 109 = 11 := by decide +kernel
theorem zl_109 : zln 109 = 20 := by decide +kernel
theorem zb_109 : 109 < 117 := by decide
theorem zk_110 : zkd 110 = 11 := by decide +kernel
theorem zl_110 : zln 110 = 20 := by decide +kernel
theorem zb_110 : 110 < 117 := by decide
theorem zk_111 : zkd 111 = 11 := by decide +kernel
theorem zl_111 : zln 111 = 20 := by decide +kernel
theorem zb_111 : 111 < 117 := by decide
theorem zk_112 : zkd 112 = 11 := by decide +kernel
theorem zl_112 : zln 112 = 20 := by decide +kernel
theorem zb_112 : 112 < 117 := by decide
theorem zk_113 : zkd 113 = 11 := by decide +kernel
theorem zl_113 : zln 113 = 6 := by decide +kernel
theorem zb_113 : 113 < 117 := by decide
theorem zk_114 : zkd 114 = 11 := by decide +kernel
theorem zl_114 : zln 114 = 72 := by decide +kernel
theorem zb_114 : 114 < 117 := by decide
theorem zk_115 : zkd 115 = 11 := by decide +kernel
theorem zl_115 : zln 115 = 6 := by decide +kernel
theorem zb_115 : 115 < 117 := by decide
theorem zk_116 : zkd 116 = 11 := by decide +kernel
theorem zl_116 : zln 116 = 6 := by decide +kernel
theorem zb_116 : 116 < 117 := by decide
def zrf0 : zRf := fun _ _ => none
def zrf1 : zRf := zwr zrf0 0 0 (some 1)
def zrf2 : zRf := zwr zrf1 0 1 (some 2)
def zrf3 : zRf := zwr zrf2 0 2 (some 3)
def zrf4 : zRf := zwr zrf3 0 3 (some 4)
def zrf5 : zRf := zwr zrf4 0 4 (some 5)
def zrf6 : zRf := zwr zrf5 6 0 (some 7)
def zrf7 : zRf := zwr zrf6 6 1 (some 8)
def zrf8 : zRf := zwr zrf7 6 2 (some 9)
def zrf9 : zRf := zwr zrf8 6 3 (some 10)
def zrf10 : zRf := zwr zrf9 6 4 (some 11)
def zrf11 : zRf := zwr zrf10 6 5 (some 12)
def zrf12 : zRf := zwr zrf11 0 5 (some 6)
def zrf13 : zRf := zwr zrf12 13 0 (some 14)
def zrf14 : zRf := zwr zrf13 13 1 (some 15)
def zrf15 : zRf := zwr zrf14 13 2 (some 16)
def zrf16 : zRf := zwr zrf15 13 3 (some 17)
def zrf17 : zRf := zwr zrf16 13 4 (some 18)
def zrf18 : zRf := zwr zrf17 13 5 (some 19)
def zrf19 : zRf := zwr zrf18 13 6 (some 20)
def zrf20 : zRf := zwr zrf19 13 7 (some 21)
def zrf21 : zRf := zwr zrf20 13 8 (some 22)
def zrf22 : zRf := zwr zrf21 13 9 (some 23)
def zrf23 : zRf := zwr zrf22 0 6 (some 13)
def zrf24 : zRf := zwr zrf23 24 1 (some 25)
def zrf25 : zRf := zwr zrf24 24 2 (some 26)
def zrf26 : zRf := zwr zrf25 24 3 (some 27)
def zrf27 : zRf := zwr zrf26 24 4 (some 28)
def zrf28 : zRf := zwr zrf27 24 5 (some 29)
def zrf29 : zRf := zwr zrf28 24 6 (some 30)
def zrf30 : zRf := zwr zrf29 24 7 (some 31)
def zrf31 : zRf := zwr zrf30 24 0 (some 6)
def zrf32 : zRf := zwr zrf31 0 7 (some 24)
def zrf33 : zRf := zwr zrf32 32 0 (some 33)
def zrf34 : zRf := zwr zrf33 32 1 (some 34)
def zrf35 : zRf := zwr zrf34 0 8 (some 32)
def zrf36 : zRf := zwr zrf35 35 0 (some 36)
def zrf37 : zRf := zwr zrf36 35 1 (some 37)
def zrf38 : zRf := zwr zrf37 35 2 (some 38)
def zrf39 : zRf := zwr zrf38 35 3 (some 39)
def zrf40 : zRf := zwr zrf39 35 4 (some 40)
def zrf41 : zRf := zwr zrf40 35 5 (some 41)
def zrf42 : zRf := zwr zrf41 35 6 (some 42)
def zrf43 : zRf := zwr zrf42 35 7 (some 43)
def zrf44 : zRf := zwr zrf43 35 8 (some 44)
def zrf45 : zRf := zwr zrf44 35 9 (some 45)
def zrf46 : zRf := zwr zrf45 0 9 (some 35)
def zrf47 : zRf := zwr zrf46 46 1 (some 47)
def zrf48 : zRf := zwr zrf47 46 2 (some 48)
def zrf49 : zRf := zwr zrf48 46 3 (some 49)
def zrf50 : zRf := zwr zrf49 46 4 (some 50)
def zrf51 : zRf := zwr zrf50 46 5 (some 51)
def zrf52 : zRf := zwr zrf51 46 0 (some 24)
def zrf53 : zRf := zwr zrf52 0 10 (some 46)
def zrf54 : zRf := zwr zrf53 52 1 (some 53)
def zrf55 : zRf := zwr zrf54 52 2 (some 54)
def zrf56 : zRf := zwr zrf55 52 3 (some 55)
def zrf57 : zRf := zwr zrf56 52 4 (some 56)
def zrf58 : zRf := zwr zrf57 52 5 (some 57)
def zrf59 : zRf := zwr zrf58 52 6 (some 58)
def zrf60 : zRf := zwr zrf59 52 0 (some 13)
def zrf61 : zRf := zwr zrf60 0 11 (some 52)
def zrf62 : zRf := zwr zrf61 59 0 (some 60)
def zrf63 : zRf := zwr zrf62 59 1 (some 61)
def zrf64 : zRf := zwr zrf63 59 2 (some 62)
def zrf65 : zRf := zwr zrf64 59 3 (some 63)
def zrf66 : zRf := zwr zrf65 59 4 (some 64)
def zrf67 : zRf := zwr zrf66 59 5 (some 65)
def zrf68 : zRf := zwr zrf67 0 12 (some 59)
def zrf69 : zRf := zwr zrf68 0 13 (some 66)
def zrf70 : zRf := zwr zrf69 67 2 (some 68)
def zrf71 : zRf := zwr zrf70 67 3 (some 69)
def zrf72 : zRf := zwr zrf71 67 4 (some 70)
def zrf73 : zRf := zwr zrf72 67 5 (some 71)
def zrf74 : zRf := zwr zrf73 67 6 (some 72)
def zrf75 : zRf := zwr zrf74 67 7 (some 73)
def zrf76 : zRf := zwr zrf75 67 9 (some 74)
def zrf77 : zRf := zwr zrf76 67 10 (some 75)
def zrf78 : zRf := zwr zrf77 67 11 (some 76)
def zrf79 : zRf := zwr zrf78 67 12 (some 77)
def zrf80 : zRf := zwr zrf79 67 13 (some 78)
def zrf81 : zRf := zwr zrf80 67 14 (some 79)
def zrf82 : zRf := zwr zrf81 67 15 (some 80)
def zrf83 : zRf := zwr zrf82 67 16 (some 81)
def zrf84 : zRf := zwr zrf83 67 18 (some 82)
def zrf85 : zRf := zwr zrf84 67 19 (some 83)
def zrf86 : zRf := zwr zrf85 67 20 (some 84)
def zrf87 : zRf := zwr zrf86 67 21 (some 85)
def zrf88 : zRf := zwr zrf87 67 22 (some 86)
def zrf89 : zRf := zwr zrf88 67 23 (some 87)
def zrf90 : zRf := zwr zrf89 67 24 (some 88)
def zrf91 : zRf := zwr zrf90 67 25 (some 89)
def zrf92 : zRf := zwr zrf91 67 27 (some 90)
def zrf93 : zRf := zwr zrf92 67 28 (some 91)
def zrf94 : zRf := zwr zrf93 67 29 (some 92)
def zrf95 : zRf := zwr zrf94 67 31 (some 93)
def zrf96 : zRf := zwr zrf95 67 33 (some 94)
def zrf97 : zRf := zwr zrf96 67 34 (some 95)
def zrf98 : zRf := zwr zrf97 67 35 (some 96)
def zrf99 : zRf := zwr zrf98 67 36 (some 97)
def zrf100 : zRf := zwr zrf99 67 37 (some 98)
def zrf101 : zRf := zwr zrf100 67 38 (some 99)
def zrf102 : zRf := zwr zrf101 67 39 (some 100)
def zrf103 : zRf := zwr zrf102 67 40 (some 101)
def zrf104 : zRf := zwr zrf103 67 41 (some 102)
def zrf105 : zRf := zwr zrf104 67 42 (some 103)
def zrf106 : zRf := zwr zrf105 67 44 (some 104)
def zrf107 : zRf := zwr zrf106 67 47 (some 105)
def zrf108 : zRf := zwr zrf107 67 48 (some 106)
def zrf109 : zRf := zwr zrf108 67 49 (some 107)
def zrf110 : zRf := zwr zrf109 67 50 (some 108)
def zrf111 : zRf := zwr zrf110 67 52 (some 109)
def zrf112 : zRf := zwr zrf111 67 53 (some 110)
def zrf113 : zRf := zwr zrf112 67 54 (some 111)
def zrf114 : zRf := zwr zrf113 67 55 (some 112)
def zrf115 : zRf := zwr zrf114 67 56 (some 113)
def zrf116 : zRf := zwr zrf115 67 57 (some 114)
def zrf117 : zRf := zwr zrf116 67 58 (some 115)
def zrf118 : zRf := zwr zrf117 67 61 (some 116)
def zRF : zRf := zrf118
theorem zr_0_0 : zRF 0 0 = some 1 := by decide +kernel
theorem zr_0_1 : zRF 0 1 = some 2 := by decide +kernel
theorem zr_0_2 : zRF 0 2 = some 3 := by decide +kernel
theorem zr_0_3 : zRF 0 3 = some 4 := by decide +kernel
theorem zr_0_4 : zRF 0 4 = some 5 := by decide +kernel
theorem zr_6_0 : zRF 6 0 = some 7 := by decide +kernel
theorem zr_6_1 : zRF 6 1 = some 8 := by decide +kernel
theorem zr_6_2 : zRF 6 2 = some 9 := by decide +kernel
theorem zr_6_3 : zRF 6 3 = some 10 := by decide +kernel
theorem zr_6_4 : zRF 6 4 = some 11 := by decide +kernel
theorem zr_6_5 : zRF 6 5 = some 12 := by decide +kernel
theorem zr_0_5 : zRF 0 5 = some 6 := by decide +kernel
theorem zr_13_0 : zRF 13 0 = some 14 := by decide +kernel
theorem zr_13_1 : zRF 13 1 = some 15 := by decide +kernel
theorem zr_13_2 : zRF 13 2 = some 16 := by decide +kernel
theorem zr_13_3 : zRF 13 3 = some 17 := by decide +kernel
theorem zr_13_4 : zRF 13 4 = some 18 := by decide +kernel
theorem zr_13_5 : zRF 13 5 = some 19 := by decide +kernel
theorem zr_13_6 : zRF 13 6 = some 20 := by decide +kernel
theorem zr_13_7 : zRF 13 7 = some 21 := by decide +kernel
theorem zr_13_8 : zRF 13 8 = some 22 := by decide +kernel
theorem zr_13_9 : zRF 13 9 = some 23 := by decide +kernel
theorem zr_0_6 : zRF 0 6 = some 13 := by decide +kernel
theorem zr_24_1 : zRF 24 1 = some 25 := by decide +kernel
theorem zr_24_2 : zRF 24 2 = some 26 := by decide +kernel
theorem zr_24_3 : zRF 24 3 = some 27 := by decide +kernel
theorem zr_24_4 : zRF 24 4 = some 28 := by decide +kernel
theorem zr_24_5 : zRF 24 5 = some 29 := by decide +kernel
theorem zr_24_6 : zRF 24 6 = some 30 := by decide +kernel
theorem zr_24_7 : zRF 24 7 = some 31 := by decide +kernel
theorem zr_24_0 : zRF 24 0 = some 6 := by decide +kernel
theorem zr_0_7 : zRF 0 7 = some 24 := by decide +kernel
theorem zr_32_0 : zRF 32 0 = some 33 := by decide +kernel
theorem zr_32_1 : zRF 32 1 = some 34 := by decide +kernel
theorem zr_0_8 : zRF 0 8 = some 32 := by decide +kernel
theorem zr_35_0 : zRF 35 0 = some 36 := by decide +kernel
theorem zr_35_1 : zRF 35 1 = some 37 := by decide +kernel
theorem zr_35_2 : zRF 35 2 = some 38 := by decide +kernel
theorem zr_35_3 : zRF 35 3 = some 39 := by decide +kernel
theorem zr_35_4 : zRF 35 4 = some 40 := by decide +kernel
theorem zr_35_5 : zRF 35 5 = some 41 := by decide +kernel
theorem zr_35_6 : zRF 35 6 = some 42 := by decide +kernel
theorem zr_35_7 : zRF 35 7 = some 43 := by decide +kernel
theorem zr_35_8 : zRF 35 8 = some 44 := by decide +kernel
theorem zr_35_9 : zRF 35 9 = some 45 := by decide +kernel
theorem zr_0_9 : zRF 0 9 = some 35 := by decide +kernel
theorem zr_46_1 : zRF 46 1 = some 47 := by decide +kernel
theorem zr_46_2 : zRF 46 2 = some 48 := by decide +kernel
theorem zr_46_3 : zRF 46 3 = some 49 := by decide +kernel
theorem zr_46_4 : zRF 46 4 = some 50 := by decide +kernel
theorem zr_46_5 : zRF 46 5 = some 51 := by decide +kernel
theorem zr_46_0 : zRF 46 0 = some 24 := by decide +kernel
theorem zr_0_10 : zRF 0 10 = some 46 := by decide +kernel
theorem zr_52_1 : zRF 52 1 = some 53 := by decide +kernel
theorem zr_52_2 : zRF 52 2 = some 54 := by decide +kernel
theorem zr_52_3 : zRF 52 3 = some 55 := by decide +kernel
theorem zr_52_4 : zRF 52 4 = some 56 := by decide +kernel
theorem zr_52_5 : zRF 52 5 = some 57 := by decide +kernel
theorem zr_52_6 : zRF 52 6 = some 58 := by decide +kernel
theorem zr_52_0 : zRF 52 0 = some 13 := by decide +kernel
theorem zr_0_11 : zRF 0 11 = some 52 := by decide +kernel
theorem zr_59_0 : zRF 59 0 = some 60 := by decide +kernel
theorem zr_59_1 : zRF 59 1 = some 61 := by decide +kernel
theorem zr_59_2 : zRF 59 2 = some 62 := by decide +kernel
theorem zr_59_3 : zRF 59 3 = some 63 := by decide +kernel
theorem zr_59_4 : zRF 59 4 = some 64 := by decide +kernel
theorem zr_59_5 : zRF 59 5 = some 65 := by decide +kernel
theorem zr_0_12 : zRF 0 12 = some 59 := by decide +kernel
theorem zr_0_13 : zRF 0 13 = some 66 := by decide +kernel
theorem zr_67_2 : zRF 67 2 = some 68 := by decide +kernel
theorem zr_67_3 : zRF 67 3 = some 69 := by decide +kernel
theorem zr_67_4 : zRF 67 4 = some 70 := by decide +kernel
theorem zr_67_5 : zRF 67 5 = some 71 := by decide +kernel
theorem zr_67_6 : zRF 67 6 = some 72 := by decide +kernel
theorem zr_67_7 : zRF 67 7 = some 73 := by decide +kernel
theorem zr_67_9 : zRF 67 9 = some 74 := by decide +kernel
theorem zr_67_10 : zRF 67 10 = some 75 := by decide +kernel
theorem zr_67_11 : zRF 67 11 = some 76 := by decide +kernel
theorem zr_67_12 : zRF 67 12 = some 77 := by decide +kernel
theorem zr_67_13 : zRF 67 13 = some 78 := by decide +kernel
theorem zr_67_14 : zRF 67 14 = some 79 := by decide +kernel
theorem zr_67_15 : zRF 67 15 = some 80 := by decide +kernel
theorem zr_67_16 : zRF 67 16 = some 81 := by decide +kernel
theorem zr_67_18 : zRF 67 18 = some 82 := by decide +kernel
theorem zr_67_19 : zRF 67 19 = some 83 := by decide +kernel
theorem zr_67_20 : zRF 67 20 = some 84 := by decide +kernel
theorem zr_67_21 : zRF 67 21 = some 85 := by decide +kernel
theorem zr_67_22 : zRF 67 22 = some 86 := by decide +kernel
theorem zr_67_23 : zRF 67 23 = some 87 := by decide +kernel
theorem zr_67_24 : zRF 67 24 = some 88 := by decide +kernel
theorem zr_67_25 : zRF 67 25 = some 89 := by decide +kernel
theorem zr_67_27 : zRF 67 27 = some 90 := by decide +kernel
theorem zr_67_28 : zRF 67 28 = some 91 := by decide +kernel
theorem zr_67_29 : zRF 67 29 = some 92 := by decide +kernel
theorem zr_67_31 : zRF 67 31 = some 93 := by decide +kernel
theorem zr_67_33 : zRF 67 33 = some 94 := by decide +kernel
theorem zr_67_34 : zRF 67 34 = some 95 := by decide +kernel
theorem zr_67_35 : zRF 67 35 = some 96 := by decide +kernel
theorem zr_67_36 : zRF 67 36 = some 97 := by decide +kernel
theorem zr_67_37 : zRF 67 37 = some 98 := by decide +kernel
theorem zr_67_38 : zRF 67 38 = some 99 := by decide +kernel
theorem zr_67_39 : zRF 67 39 = some 100 := by decide +kernel
theorem zr_67_40 : zRF 67 40 = some 101 := by decide +kernel
theorem zr_67_41 : zRF 67 41 = some 102 := by decide +kernel
theorem zr_67_42 : zRF 67 42 = some 103 := by decide +kernel
theorem zr_67_44 : zRF 67 44 = some 104 := by decide +kernel
theorem zr_67_47 : zRF 67 47 = some 105 := by decide +kernel
theorem zr_67_48 : zRF 67 48 = some 106 := by decide +kernel
theorem zr_67_49 : zRF 67 49 = some 107 := by decide +kernel
theorem zr_67_50 : zRF 67 50 = some 108 := by decide +kernel
theorem zr_67_52 : zRF 67 52 = some 109 := by decide +kernel
theorem zr_67_53 : zRF 67 53 = some 110 := by decide +kernel
theorem zr_67_54 : zRF 67 54 = some 111 := by decide +kernel
theorem zr_67_55 : zRF 67 55 = some 112 := by decide +kernel
theorem zr_67_56 : zRF 67 56 = some 113 := by decide +kernel
theorem zr_67_57 : zRF 67 57 = some 114 := by decide +kernel
theorem zr_67_58 : zRF 67 58 = some 115 := by decide +kernel
theorem zr_67_61 : zRF 67 61 = some 116 := by decide +kernel

/-! ===== the law: every call, from the first heap on ===== -/
theorem zrs_ok {xs : Nat → Int32} {L j : Nat} (hj : j < L) (hL : L ≤ 3072) : zrs xs L (nI j) = some (xs j) := by
  unfold zrs
  rw [if_neg (nI_in hj (by omega)), nI_clamp (by omega)]
theorem zstP {xs : Nat → Int32} {L j f : Nat} {h : zHp} (IH : ∀ h : zHp, zI h → ∃ q, s_law_L18 xs L f (nI (j + 6)) h = some q ∧ q.1 = 1) {X Y : zHp → Option (Int32 × zHp)} (op : zop X Y h) : ∃ q, ((X h).bind fun q6 => (Y q6.2).bind fun q8 => if q6.1 = q8.1 then s_law_L1462 xs L (s_law_L18 xs L f) (nI j) q8.2 else some ((0 : Int32), q8.2)) = some q ∧ q.1 = 1 := by
  obtain ⟨q1, q2, e1, e2, e3, hI⟩ := op
  obtain ⟨q, q3, q4⟩ := IH _ hI
  refine ⟨q, ?_, q4⟩
  rw [zbs e1, zbs e2, if_pos e3]
  unfold s_law_L1462
  rw [show (6 : Int32) = nI 6 from by decide, nI_add]
  exact q3
theorem zstQ {xs : Nat → Int32} {L j f : Nat} {h : zHp} (IH : ∀ h : zHp, zI h → ∃ q, s_law_L18 xs L f (nI (j + 6)) h = some q ∧ q.1 = 1) {X Y : zHp → Option (Int64 × zHp)} (op : zopL X Y h) : ∃ q, ((X h).bind fun q6 => (Y q6.2).bind fun q8 => if q6.1 = q8.1 then s_law_L1462 xs L (s_law_L18 xs L f) (nI j) q8.2 else some ((0 : Int32), q8.2)) = some q ∧ q.1 = 1 := by
  obtain ⟨q1, q2, e1, e2, e3, hI⟩ := op
  obtain ⟨q, q3, q4⟩ := IH _ hI
  refine ⟨q, ?_, q4⟩
  rw [zbs e1, zbs e2, if_pos e3]
  unfold s_law_L1462
  rw [show (6 : Int32) = nI 6 from by decide, nI_add]
  exact q3
set_option maxRecDepth 10000 in
set_option maxHeartbeats 2000000 in
theorem z_loop {xs : Nat → Int32} {L : Nat} (hL : L ≤ 3072) : ∀ f j (h : zHp), j ≤ L + 6 → L + 6 < f + j → zI h → ∃ q, s_law_L18 xs L f (nI j) h = some q ∧ q.1 = 1
  | 0, j, h, h1, h2, _ => by omega
  | f + 1, j, h, h1, h2, hI => by
    have e6 : (Int32.ofNat L - (6 : Int32)).toInt = (L : Int) - 6 := pk_sub_toInt (a := L) (b := 6) (by omega) (by decide)
    rw [s_law_L18]
    by_cases c : Int32.ofNat L - (6 : Int32) < nI j
    · rw [if_pos c]
      exact ⟨_, rfl, rfl⟩
    · rw [if_neg c]
      rw [Int32.lt_iff_toInt_lt, e6, nI_toInt (by omega)] at c
      have jL : j + 6 ≤ L := by omega
      have IH : ∀ h : zHp, zI h → ∃ q, s_law_L18 xs L f (nI (j + 6)) h = some q ∧ q.1 = 1 := fun h hI => z_loop hL f (j + 6) h (by omega) (by omega) hI
      have z1 : zrs xs L (nI j + 1) = some (xs (j + 1)) := by rw [nI_1]; exact zrs_ok (by omega) hL
      have z2 : zrs xs L (nI j + 2) = some (xs (j + 2)) := by rw [show (2 : Int32) = nI 2 from by decide, nI_add]; exact zrs_ok (by omega) hL
      have z3 : zrs xs L (nI j + 3) = some (xs (j + 3)) := by rw [show (3 : Int32) = nI 3 from by decide, nI_add]; exact zrs_ok (by omega) hL
      have z4 : zrs xs L (nI j + 4) = some (xs (j + 4)) := by rw [show (4 : Int32) = nI 4 from by decide, nI_add]; exact zrs_ok (by omega) hL
      have z5 : zrs xs L (nI j + 5) = some (xs (j + 5)) := by rw [show (5 : Int32) = nI 5 from by decide, nI_add]; exact zrs_ok (by omega) hL
      rw [zbs (zrs_ok (show j < L by omega) hL), zbs rfl]
      generalize xs j &&& (63 : Int32) = v3
      by_cases c0 : v3 = (0 : Int32)
      · rw [if_pos c0]
        simp only [z1, Option.bind_some]
        exact zstP IH (op_days (xs (j + 1)) hI)
      rw [if_neg c0]
      by_cases c1 : v3 = (1 : Int32)
      · rw [if_pos c1]
        simp only [z1, z2, z3, Option.bind_some]
        exact zstP IH (op_code (xs (j + 1)) (xs (j + 2)) (xs (j + 3)) hI)
      rw [if_neg c1]
      by_cases c2 : v3 = (2 : Int32)
      · rw [if_pos c2]
        simp only [z1, z2, z3, Option.bind_some]
        exact zstP IH (op_turn (xs (j + 1)) (xs (j + 2)) (xs (j + 3)) hI)
      rw [if_neg c2]
      by_cases c3 : v3 = (3 : Int32)
      · rw [if_pos c3]
        simp only [z1, z2, Option.bind_some]
        exact zstP IH (op_stands (xs (j + 1)) (xs (j + 2)) hI)
      rw [if_neg c3]
      by_cases c4 : v3 = (4 : Int32)
      · rw [if_pos c4]
        simp only [z1, z2, Option.bind_some]
        exact zstP IH (op_most (xs (j + 1)) (xs (j + 2)) hI)
      rw [if_neg c4]
      by_cases c5 : v3 = (5 : Int32)
      · rw [if_pos c5]
        simp only [z1, z2, z3, z4, z5, Option.bind_some]
        exact zstP IH (op_kitchen (xs (j + 1)) (xs (j + 2)) (xs (j + 3)) (xs (j + 4)) (xs (j + 5)) hI)
      rw [if_neg c5]
      by_cases c6 : v3 = (6 : Int32)
      · rw [if_pos c6]
        unfold s_law_L453 s_law_L475
        simp only [z1, z2, Option.bind_some]
        by_cases d : xs (j + 2) = 0
        · simp only [if_pos d]
          exact zstP IH (op_hard (xs (j + 1)) 0 (Or.inl rfl) hI)
        · simp only [if_neg d]
          exact zstP IH (op_hard (xs (j + 1)) 1 (Or.inr rfl) hI)
      rw [if_neg c6]
      by_cases c7 : v3 = (7 : Int32)
      · rw [if_pos c7]
        unfold s_law_L507 s_law_L534
        simp only [z1, z2, z3, Option.bind_some]
        by_cases d : xs (j + 3) = 0
        · simp only [if_pos d]
          exact zstP IH (op_kin (xs (j + 1)) (xs (j + 2)) 0 (Or.inl rfl) hI)
        · simp only [if_neg d]
          exact zstP IH (op_kin (xs (j + 1)) (xs (j + 2)) 1 (Or.inr rfl) hI)
      rw [if_neg c7]
      by_cases c8 : v3 = (8 : Int32)
      · rw [if_pos c8]
        simp only [z1, z2, z3, Option.bind_some]
        exact zstP IH (op_look (xs (j + 1)) (xs (j + 2)) (xs (j + 3)) hI)
      rw [if_neg c8]
      by_cases c9 : v3 = (9 : Int32)
      · rw [if_pos c9]
        simp only [z1, z2, Option.bind_some]
        exact zstP IH (op_find (xs (j + 1)) (xs (j + 2)) hI)
      rw [if_neg c9]
      by_cases c10 : v3 = (10 : Int32)
      · rw [if_pos c10]
        simp only [z1, Option.bind_some]
        exact zstP IH (op_back (xs (j + 1)) hI)
      rw [if_neg c10]
      by_cases c11 : v3 = (11 : Int32)
      · rw [if_pos c11]
        simp only [z1, z2, Option.bind_some]
        exact zstP IH (op_score (xs (j + 1)) (xs (j + 2)) hI)
      rw [if_neg c11]
      by_cases c12 : v3 = (12 : Int32)
      · rw [if_pos c12]
        simp only [z1, z2, z3, z4, z5, Option.bind_some]
        exact zstP IH (op_table (xs (j + 1)) (xs (j + 2)) (xs (j + 3)) (xs (j + 4)) (xs (j + 5)) hI)
      rw [if_neg c12]
      by_cases c13 : v3 = (13 : Int32)
      · rw [if_pos c13]
        simp only [z1, z2, z3, Option.bind_some]
        exact zstP IH (op_star (xs (j + 1)) (xs (j + 2)) (xs (j + 3)) hI)
      rw [if_neg c13]
      by_cases c14 : v3 = (14 : Int32)
      · rw [if_pos c14]
        simp only [z1, z2, Option.bind_some]
        exact zstP IH (op_show (xs (j + 1)) (xs (j + 2)) hI)
      rw [if_neg c14]
      by_cases c15 : v3 = (15 : Int32)
      · rw [if_pos c15]
        exact zstP IH (op_falses hI)
      rw [if_neg c15]
      by_cases c16 : v3 = (16 : Int32)
      · rw [if_pos c16]
        simp only [z1, z2, Option.bind_some]
        exact zstP IH (op_base (xs (j + 1)) (xs (j + 2)) hI)
      rw [if_neg c16]
      by_cases c17 : v3 = (17 : Int32)
      · rw [if_pos c17]
        simp only [z1, z2, Option.bind_some]
        exact zstP IH (op_risk (xs (j + 1)) (xs (j + 2)) hI)
      rw [if_neg c17]
      by_cases c18 : v3 = (18 : Int32)
      · rw [if_pos c18]
        simp only [z1, z2, Option.bind_some]
        exact zstP IH (op_delay (xs (j + 1)) (xs (j + 2)) hI)
      rw [if_neg c18]
      by_cases c19 : v3 = (19 : Int32)
      · rw [if_pos c19]
        simp only [z1, Option.bind_some]
        exact zstP IH (op_capacity (xs (j + 1)) hI)
      rw [if_neg c19]
      by_cases c20 : v3 = (20 : Int32)
      · rw [if_pos c20]
        simp only [z1, Option.bind_some]
        exact zstP IH (op_rounds (xs (j + 1)) hI)
      rw [if_neg c20]
      by_cases c21 : v3 = (21 : Int32)
      · rw [if_pos c21]
        simp only [z1, z2, z3, Option.bind_some]
        exact zstP IH (op_roundOf (xs (j + 1)) (xs (j + 2)) (xs (j + 3)) hI)
      rw [if_neg c21]
      by_cases c22 : v3 = (22 : Int32)
      · rw [if_pos c22]
        exact zstP IH (op_doubles hI)
      rw [if_neg c22]
      by_cases c23 : v3 = (23 : Int32)
      · rw [if_pos c23]
        simp only [z1, z2, Option.bind_some]
        exact zstQ IH (op_habit (xs (j + 1)) (xs (j + 2)) hI)
      rw [if_neg c23]
      by_cases c24 : v3 = (24 : Int32)
      · rw [if_pos c24]
        simp only [z1, z2, Option.bind_some]
        exact zstQ IH (op_evened (xs (j + 1)) (xs (j + 2)) hI)
      rw [if_neg c24]
      by_cases c25 : v3 = (25 : Int32)
      · rw [if_pos c25]
        exact zstP IH (op_others hI)
      rw [if_neg c25]
      by_cases c26 : v3 = (26 : Int32)
      · rw [if_pos c26]
        simp only [z1, z2, z3, Option.bind_some]
        exact zstP IH (op_swap (xs (j + 1)) (xs (j + 2)) (xs (j + 3)) hI)
      rw [if_neg c26]
      by_cases c27 : v3 = (27 : Int32)
      · rw [if_pos c27]
        simp only [z1, z2, z3, Option.bind_some]
        exact zstP IH (op_shut (xs (j + 1)) (xs (j + 2)) (xs (j + 3)) hI)
      rw [if_neg c27]
      by_cases c28 : v3 = (28 : Int32)
      · rw [if_pos c28]
        simp only [z1, z2, z3, z4, Option.bind_some]
        exact zstP IH (op_complaint (xs (j + 1)) (xs (j + 2)) (xs (j + 3)) (xs (j + 4)) hI)
      rw [if_neg c28]
      by_cases c29 : v3 = (29 : Int32)
      · rw [if_pos c29]
        simp only [z1, z2, z3, Option.bind_some]
        exact zstP IH (op_part (xs (j + 1)) (xs (j + 2)) (xs (j + 3)) hI)
      rw [if_neg c29]
      by_cases c30 : v3 = (30 : Int32)
      · rw [if_pos c30]
        simp only [z1, Option.bind_some]
        exact zstP IH (op_joined (xs (j + 1)) hI)
      rw [if_neg c30]
      by_cases c31 : v3 = (31 : Int32)
      · rw [if_pos c31]
        simp only [z1, z2, Option.bind_some]
        exact zstP IH (op_began (xs (j + 1)) (xs (j + 2)) hI)
      rw [if_neg c31]
      by_cases c32 : v3 = (32 : Int32)
      · rw [if_pos c32]
        simp only [z1, z2, z3, Option.bind_some]
        exact zstP IH (op_cases (xs (j + 1)) (xs (j + 2)) (xs (j + 3)) hI)
      rw [if_neg c32]
      by_cases c33 : v3 = (33 : Int32)
      · rw [if_pos c33]
        simp only [z1, Option.bind_some]
        exact zstQ IH (op_effect (xs (j + 1)) hI)
      rw [if_neg c33]
      by_cases c34 : v3 = (34 : Int32)
      · rw [if_pos c34]
        exact zstP IH (op_chance hI)
      rw [if_neg c34]
      by_cases c35 : v3 = (35 : Int32)
      · rw [if_pos c35]
        exact zstP IH (op_helped hI)
      rw [if_neg c35]
      by_cases c36 : v3 = (36 : Int32)
      · rw [if_pos c36]
        simp only [z1, Option.bind_some]
        exact zstP IH (op_count (xs (j + 1)) hI)
      rw [if_neg c36]
      unfold s_law_L1462
      rw [show (6 : Int32) = nI 6 from by decide, nI_add]
      exact IH h hI
theorem z_first : zI zh39 := by
  have e12 : zh39.1 12 = zh39.1 73 := by
    funext j
    show (if 0 ≤ j ∧ j < 5 then (60 : Int32) else 0) = if j = 4 then 60 else if j = 3 then 60 else if j = 2 then 60 else if j = 1 then 60 else if j = 0 then 60 else 0
    by_cases c : j < 5
    · rw [if_pos ⟨Nat.zero_le j, c⟩]
      match j, c with
      | 0, _ => rfl
      | 1, _ => rfl
      | 2, _ => rfl
      | 3, _ => rfl
      | 4, _ => rfl
    · rw [if_neg (fun z => c z.2), if_neg (by omega), if_neg (by omega), if_neg (by omega), if_neg (by omega), if_neg (by omega)]
  have e3 : zh39.1 3 = zh39.1 92 := by
    funext j
    show (if 0 ≤ j ∧ j < 4 then (10 : Int32) else 0) = if j = 3 then 10 else if j = 2 then 10 else if j = 1 then 10 else if j = 0 then 10 else 0
    by_cases c : j < 4
    · rw [if_pos ⟨Nat.zero_le j, c⟩]
      match j, c with
      | 0, _ => rfl
      | 1, _ => rfl
      | 2, _ => rfl
      | 3, _ => rfl
    · rw [if_neg (fun z => c z.2), if_neg (by omega), if_neg (by omega), if_neg (by omega), if_neg (by omega)]
  have e60 : zh39.1 60 = zh39.1 113 := by
    funext j
    show (if 0 ≤ j ∧ j < 6 then (12 : Int32) else 0) = if j = 5 then 12 else if j = 4 then 12 else if j = 3 then 12 else if j = 2 then 12 else if j = 1 then 12 else if j = 0 then 12 else 0
    by_cases c : j < 6
    · rw [if_pos ⟨Nat.zero_le j, c⟩]
      match j, c with
      | 0, _ => rfl
      | 1, _ => rfl
      | 2, _ => rfl
      | 3, _ => rfl
      | 4, _ => rfl
      | 5, _ => rfl
    · rw [if_neg (fun z => c z.2), if_neg (by omega), if_neg (by omega), if_neg (by omega), if_neg (by omega), if_neg (by omega), if_neg (by omega)]
  refine ⟨0, 0, 0, 0, 0, 0, ⟨rfl, rfl, by decide⟩, ⟨⟨rfl, rfl, by decide⟩, ⟨rfl, rfl, rfl, rfl, e12⟩, fun i hi => by omega, fun i hi => by omega, fun i hi => by omega, fun i _ hi => ?_, fun g hg => ⟨60, by decide, ?_⟩⟩, ⟨⟨rfl, rfl, by decide⟩, ⟨rfl, rfl, rfl, rfl, rfl, rfl, rfl⟩, fun i hi => by omega, fun i => Or.inl rfl⟩, ⟨⟨rfl, rfl, rfl⟩, fun i _ => ⟨0, by decide, rfl, fun r hr => by omega⟩⟩, ⟨rfl, rfl, fun i => Or.inl rfl, e3, fun i hi => ⟨10, by decide, by decide, ?_⟩, ⟨2, by decide, by decide, rfl, rfl⟩⟩, ⟨⟨rfl, rfl, by decide⟩, ⟨rfl, rfl, rfl, rfl, rfl⟩, fun i hi => by omega, fun i _ hi => ?_, fun r _ => ⟨0, by decide, rfl⟩, rfl⟩, ⟨⟨rfl, rfl, by decide⟩, ⟨rfl, rfl⟩, fun i hi => by omega⟩, ⟨⟨rfl, rfl, by decide⟩, ⟨rfl, rfl, rfl, rfl⟩, fun i hi => by omega⟩, ⟨⟨e60, rfl⟩, fun i hi => ⟨12, by decide, ?_⟩, fun r _ => ⟨0, by decide, rfl⟩⟩⟩
  · show (if 0 ≤ i ∧ i < 40 then (-1 : Int32) else 0) = -1
    rw [if_pos ⟨Nat.zero_le i, hi⟩]
  · show (if 0 ≤ g ∧ g < 5 then (60 : Int32) else 0) = nI 60
    rw [if_pos ⟨Nat.zero_le g, hg⟩]; rfl
  · show (if 0 ≤ i ∧ i < 4 then (10 : Int32) else 0) = nI 10
    rw [if_pos ⟨Nat.zero_le i, hi⟩]; rfl
  · show (if 0 ≤ i ∧ i < 80 then (1501 : Int32) else 0) = 1501
    rw [if_pos ⟨Nat.zero_le i, hi⟩]
  · show (if 0 ≤ i ∧ i < 6 then (12 : Int32) else 0) = nI 12
    rw [if_pos ⟨Nat.zero_le i, hi⟩]; rfl
theorem z_main (xs : Nat → Int32) (L : Nat) (hL : L ≤ 3072) : ∃ q, s_law_L18 xs L zFU 0 zh39 = some q ∧ q.1 = 1 := by
  have := z_loop (xs := xs) hL zFU 0 zh39 (by omega) (by
    have := zFU_gt (n := L + 6) (by omega)
    omega) z_first
  rw [nI_0] at this
  exact this

theorem z_main (xs : Nat → Int32) (L : Nat) (hL : L ≤ 3072) : ∃ q, s_law_L18 xs L zFU 0 zh39 = some q ∧ q.1 = 1 := sorry

theorem zz_pure {L : Nat} {xs : Nat → Int32} (hL : L ≤ 4096) : ∃ z, zf_L_law 5000 xs L zh_0 = some (1, z) ∧ zh_N z ≤ 600000 ∧ zh_M z ≤ 7302250 := sorry

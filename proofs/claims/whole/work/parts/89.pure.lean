theorem pure_main (xs : Nat → Int32) (n : Nat) (hn : n ≤ 512) : ∃ gx0 gm0, F_X6_init (zi G0 0) = some gx0 ∧ F_X7_init (zi G0 0) = some gm0 ∧ lawF xs n 0 gx0 gm0 = some () := sorry

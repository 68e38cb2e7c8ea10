theorem pure_main (xs : Nat → Int32) (n : Nat) (hn : n ≤ 512) : ∃ gx0 gm0, F_X6_init (zi G0 0) = some gx0 ∧ F_X7_init (zi G0 0) = some gm0 ∧ lawF xs n 0 gx0 gm0 = some () := by
  obtain ⟨gx0, a1, a2, a3, a4⟩ := x_init
  obtain ⟨gm0, b1, b2, b3, b4⟩ := m_init
  exact ⟨gx0, gm0, a1, b1, law_all xs n 0 gx0 gm0 (i_init a2 a3 a4 b2 b3)⟩

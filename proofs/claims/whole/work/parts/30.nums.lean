def pcn (m : Nat) : Nat → Nat
  | 0 => 0
  | k + 1 => pcn m k + (m / 2 ^ k) % 2
def pc16 (m : Nat) : Nat := pcn m 16
theorem bc_test : ∀ b, b < 64 → ∀ c, c < 64 → F_J6_bitCount_0f7a4 (nI (b * 1024 + c)) = some (nI (pc16 (b * 1024 + c))) := by decide +kernel

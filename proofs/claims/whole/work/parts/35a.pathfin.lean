def dst (a b : Nat) : Nat := (a / 12 - b / 12) + (b / 12 - a / 12) + (a % 12 - b % 12) + (b % 12 - a % 12)
theorem dst_eq : ∀ a, a < 96 → ∀ b, b < 96 → f_X2_distance (nI a) (nI b) = some (nI (dst a b)) := by decide +kernel
theorem dst_ah : ∀ a, a < 96 → ∀ w, w < 5 → ah a w < 96 → ∀ b, b < 96 → dst a b ≤ dst (ah a w) b + 1 := by decide +kernel
theorem dst_0 : ∀ a, a < 96 → ∀ b, b < 96 → dst a b = 0 → a = b := by decide +kernel
theorem dst_self : ∀ a, a < 96 → dst a a = 0 := by decide +kernel
theorem dst_le : ∀ a, a < 96 → ∀ b, b < 96 → dst a b ≤ 18 := by decide +kernel

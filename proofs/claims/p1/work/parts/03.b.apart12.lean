theorem nmX12 : ∀ a, a < 139 → ∀ b, b < 139 → a ≠ b → (TX12 a).2.1 ≠ (TX12 b).2.1 := by decide +kernel
theorem tyX12_ok : ∀ k, k < 139 → parseFieldDescriptor (TX12 k).2.2.1 = some (tyX12 k) := by decide +kernel

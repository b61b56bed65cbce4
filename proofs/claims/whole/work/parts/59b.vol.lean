/-! volumes, by the kernel -/
theorem q_vol : ∀ w, w < 21 → ∀ e, e < 3 → F_X4_volume (nI w) (nI e) = F_X5_volume (nI w) (nI e) ∧ (F_X5_volume (nI w) (nI e)).isSome = true := by decide +kernel

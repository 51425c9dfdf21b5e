theorem lwxX4 : ∀ w ∈ wsX40, w ∈ lw_tbl := by decide +kernel
theorem lwxX5 : ∀ w ∈ wsX50, w ∈ lw_tbl := by decide +kernel
theorem lwxX1 : ∀ w ∈ wsX10, w ∈ lw_tbl := by decide +kernel
theorem lwxX0 : ∀ w ∈ wsX00, w ∈ lw_tbl := by decide +kernel
theorem lwxX2 : ∀ w ∈ wsX20, w ∈ lw_tbl := by decide +kernel
theorem lwxX3 : ∀ w ∈ wsX30, w ∈ lw_tbl := by decide +kernel

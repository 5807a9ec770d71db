set_option maxRecDepth 100000 in
theorem st_t : ∀ y, y < 30 → ∀ k, k < 72 → gl M_s (24 + 4 * y) k = gl M_s 216 (72 * y + k) := by decide +kernel

-- ===== the start: in both the same =====
set_option maxRecDepth 100000 in
theorem st_c1 : ∀ a, a < 181 → kdL a ≠ 99 → kd M_s a = kdL a ∧ ln M_s a = lnL a := by decide +kernel
set_option maxRecDepth 100000 in
theorem st_c2 : ∀ q ∈ fxL, gr M_s q.1 q.2.1 = some q.2.2 := by decide +kernel
set_option maxRecDepth 100000 in
theorem st_c3 : ∀ n, n < 30 → gr M_s 20 n = some (21 + 4 * n) ∧ kd M_s (21 + 4 * n) = 8 ∧ kd M_s (22 + 4 * n) = 20 ∧ kd M_s (23 + 4 * n) = 21 ∧ kd M_s (24 + 4 * n) = 21 ∧ ln M_s (22 + 4 * n) = 8 ∧ ln M_s (23 + 4 * n) = 8 ∧ ln M_s (24 + 4 * n) = 72 ∧ gr M_s (21 + 4 * n) 5 = some (22 + 4 * n) ∧ gr M_s (21 + 4 * n) 6 = some (23 + 4 * n) ∧ gr M_s (21 + 4 * n) 7 = some (24 + 4 * n) := by decide +kernel
set_option maxRecDepth 100000 in
theorem st_c4 : ∀ n, n < 31 → gr M_s 145 n = some (146 + n) ∧ kd M_s (146 + n) = 2 := by decide +kernel
set_option maxRecDepth 100000 in
theorem st_r1 : ∀ a, a < 231 → 181 ≤ a → kd M_s a = kdR a := by decide +kernel
set_option maxRecDepth 100000 in
theorem st_r2 : ∀ a, a < 231 → 182 ≤ a → ln M_s a = lnR a := by decide +kernel
set_option maxRecDepth 100000 in
theorem st_r3 : ∀ j, j < 85 → gr M_s 181 j = grR j := by decide +kernel
theorem grR_big {j : Nat} (h : 85 ≤ j) : grR j = none := by unfold grR; split <;> first | omega | rfl
set_option maxRecDepth 100000 in
theorem st_y : ∀ y, y < 30 → gr M_s 19 y = none ∧ gi M_s 194 y = 0 ∧ gr M_s (21 + 4 * y) 0 = none ∧ gi M_s 194 (30 + y) = 0 ∧ (gi M_s (21 + 4 * y) 1 = gi M_s 212 y ∧ gi M_s (21 + 4 * y) 2 = gi M_s 213 y ∧ gi M_s (21 + 4 * y) 3 = gi M_s 214 y ∧ gi M_s (21 + 4 * y) 4 = gi M_s 215 y) ∧ gi M_s 211 y = 0 := by decide +kernel
set_option maxRecDepth 100000 in
theorem st_0 : gi M_s 1 1 = 0 ∧ gi M_s 181 1 = 0 ∧ gi M_s 7 6 = gi M_s 181 2 ∧ gi M_s 7 7 = gi M_s 181 3 ∧ gi M_s 18 2 = 0 ∧ gi M_s 18 3 = 0 ∧ gi M_s 181 59 = 0 ∧ gi M_s 181 64 = -1 ∧ gi M_s 144 8 = 0 ∧ gi M_s 181 66 = 0 ∧ gi M_s 0 6 = 0 ∧ gi M_s 181 73 = 0 ∧ gi M_s 0 7 = gi M_s 181 83 ∧ gi M_s 0 8 = gi M_s 181 84 ∧ gi M_s 181 63 = 0 ∧ gi M_s 181 33 = 0 ∧ gi M_s 181 34 = 0 := by decide +kernel
set_option maxRecDepth 100000 in
theorem st_v : ∀ v, v < 20 → gi M_s 224 v = 0 := by decide +kernel
set_option maxRecDepth 100000 in
theorem st_w1 : ∀ k, k < 12 → gl M_s 6 k = gl M_s 183 (k + 1) := by decide +kernel
set_option maxRecDepth 100000 in
theorem st_w2 : ∀ i, i < 12 → ∀ j, j < 12 → gl M_s 6 i = gl M_s 6 j → i = j := by decide +kernel
set_option maxRecDepth 100000 in
theorem st_w3 : ∀ k, k < 7 → 1024 ≤ (gl M_s 6 k).toNatClampNeg ∧ (gl M_s 6 k).toNatClampNeg < 1099511627776 ∧ gl M_s 6 k = nl (gl M_s 6 k).toNatClampNeg := by decide +kernel

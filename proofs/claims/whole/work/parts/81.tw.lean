theorem sim_start {M : Mem} (h_nc : nc M = 231) (h_r4 : ∀ j, 85 ≤ j → gr M 181 j = none) (h_c1 : ∀ a, a < 181 → kdL a ≠ 99 → kd M a = kdL a ∧ ln M a = lnL a) (h_c2 : ∀ q ∈ fxL, gr M q.1 q.2.1 = some q.2.2) (h_c3 : ∀ n, n < 30 → gr M 20 n = some (21 + 4 * n) ∧ kd M (21 + 4 * n) = 8 ∧ kd M (22 + 4 * n) = 20 ∧ kd M (23 + 4 * n) = 21 ∧ kd M (24 + 4 * n) = 21 ∧ ln M (22 + 4 * n) = 8 ∧ ln M (23 + 4 * n) = 8 ∧ ln M (24 + 4 * n) = 72 ∧ gr M (21 + 4 * n) 5 = some (22 + 4 * n) ∧ gr M (21 + 4 * n) 6 = some (23 + 4 * n) ∧ gr M (21 + 4 * n) 7 = some (24 + 4 * n)) (h_c4 : ∀ n, n < 31 → gr M 145 n = some (146 + n) ∧ kd M (146 + n) = 2) (h_r1 : ∀ a, a < 231 → 181 ≤ a → kd M a = kdR a) (h_r2 : ∀ a, a < 231 → 182 ≤ a → ln M a = lnR a) (h_r3 : ∀ j, j < 85 → gr M 181 j = grR j) (h_y : ∀ y, y < 30 → gr M 19 y = none ∧ gi M 194 y = 0 ∧ gr M (21 + 4 * y) 0 = none ∧ gi M 194 (30 + y) = 0 ∧ (gi M (21 + 4 * y) 1 = gi M 212 y ∧ gi M (21 + 4 * y) 2 = gi M 213 y ∧ gi M (21 + 4 * y) 3 = gi M 214 y ∧ gi M (21 + 4 * y) 4 = gi M 215 y) ∧ gi M 211 y = 0) (h_0 : gi M 1 1 = 0 ∧ gi M 181 1 = 0 ∧ gi M 7 6 = gi M 181 2 ∧ gi M 7 7 = gi M 181 3 ∧ gi M 18 2 = 0 ∧ gi M 18 3 = 0 ∧ gi M 181 59 = 0 ∧ gi M 181 64 = -1 ∧ gi M 144 8 = 0 ∧ gi M 181 66 = 0 ∧ gi M 0 6 = 0 ∧ gi M 181 73 = 0 ∧ gi M 0 7 = gi M 181 83 ∧ gi M 0 8 = gi M 181 84 ∧ gi M 181 63 = 0 ∧ gi M 181 33 = 0 ∧ gi M 181 34 = 0) (h_v : ∀ v, v < 20 → gi M 224 v = 0) (h_w1 : ∀ k, k < 12 → gl M 6 k = gl M 183 (k + 1)) (h_w2 : ∀ i, i < 12 → ∀ j, j < 12 → gl M 6 i = gl M 6 j → i = j) (h_w3 : ∀ k, k < 7 → 1024 ≤ (gl M 6 k).toNatClampNeg ∧ (gl M 6 k).toNatClampNeg < 1099511627776 ∧ gl M 6 k = nl (gl M 6 k).toNatClampNeg) (h_t : ∀ y, y < 30 → ∀ k, k < 72 → gl M (24 + 4 * y) k = gl M 216 (72 * y + k)) : Sim 0 M M := by
  have fC : FSC M := ⟨Nat.le_of_eq h_nc.symm, h_c1, h_c2, h_c3, h_c4⟩
  have fR : FSR M := ⟨fun a h1 h2 => h_r1 a h2 h1, fun a h1 h2 => h_r2 a h2 h1, fun j => by
    by_cases h : j < 85
    · exact h_r3 j h
    · rw [grR_big (by omega)]; exact h_r4 j (by omega)⟩
  obtain ⟨a1, a2, a3, a4, a5, a6, a7, a8, a9, a10, a11, a12, a13, a14, a15, -⟩ := h_0
  have none0 : ∀ y s, y < 30 → gr M (21 + 4 * y) 0 = some s → False := fun y s hy hs => by
    rw [(h_y y hy).2.2.1] at hs; cases hs
  refine ⟨fC, fR, ⟨0, by omega, a1, a2, fun k hk => absurd hk (by omega)⟩, ⟨h_w1, fun i j hi hj => h_w2 i hi j hj, fun k hk => ⟨_, h_w3 k hk⟩⟩, ⟨a3, a4⟩, fun y hy => ?_, fun y hy => ?_, ⟨fun y hy => ?_, fun y h1 h2 => ?_⟩, ⟨0, by omega, a6, a7, Or.inl a8⟩, fun y s hy hs => (none0 y s hy hs).elim, fun _ y s hy hs => (none0 y s hy hs).elim, ⟨0, by omega, a9, a10, fun k hk => absurd hk (by omega)⟩, ⟨0, by omega, a11, a12, fun v hv => absurd hv (by omega), fun v u q p h1 h2 => absurd h2 (by omega), fun v q s hv => absurd hv (by omega), fun v _ h2 => h_v v h2⟩, ⟨a13, a14⟩, a15⟩
  · obtain ⟨y1, y2, -⟩ := h_y y hy
    rw [y1]; exact y2
  · obtain ⟨-, -, y3, y4, y5, -⟩ := h_y y hy
    refine ⟨?_, y5, h_t y hy, fun h => absurd y3 h⟩
    rw [y3]; exact y4
  · obtain ⟨y1, -, y3, -, -, y6⟩ := h_y y hy
    rw [a5, bt_0 y, y1, y3]
    exact ⟨y6, fun _ => rfl⟩
  · rw [a5]; exact bt_0 y
theorem st_sim : Sim 0 M_s M_s := sim_start st_nc (fun _ h => st_r4 h) st_c1 st_c2 st_c3 st_c4 st_r1 st_r2 st_r3 st_y st_0 st_v st_w1 st_w2 st_w3 st_t
theorem zr_start {M : Mem} (h_0 : gi M 1 1 = 0 ∧ gi M 181 1 = 0 ∧ gi M 7 6 = gi M 181 2 ∧ gi M 7 7 = gi M 181 3 ∧ gi M 18 2 = 0 ∧ gi M 18 3 = 0 ∧ gi M 181 59 = 0 ∧ gi M 181 64 = -1 ∧ gi M 144 8 = 0 ∧ gi M 181 66 = 0 ∧ gi M 0 6 = 0 ∧ gi M 181 73 = 0 ∧ gi M 0 7 = gi M 181 83 ∧ gi M 0 8 = gi M 181 84 ∧ gi M 181 63 = 0 ∧ gi M 181 33 = 0 ∧ gi M 181 34 = 0) : Zr M := ⟨h_0.2.2.2.2.2.2.2.2.2.2.2.2.2.2.2.1, h_0.2.2.2.2.2.2.2.2.2.2.2.2.2.2.2.2⟩
theorem st_zr : Zr M_s := zr_start st_0

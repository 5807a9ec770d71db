theorem law_gen (G : Gt) (v0 : Option Nat) {M0 M1 M2 : Mem} {w1 w2 : Unit × Mem} (h0 : nc M0 = 0) (e1 : L_X10_init (some 0) (nw M0 10 0 9) = some w1) (f1 : M1 = w1.2) (n1 : nc M1 = 181) (e2 : L_X11_init (some 181) (nw M1 11 0 85) = some w2) (f2 : M2 = w2.2) : L_L_law G v0 M0 = J_L_law_18 G FU v0 (some 0) (some 181) 0 M2 := by
  subst f1 f2
  unfold L_L_law
  rw [h0, e1, bS]
  rw [n1, e2, bS]
theorem law_start (G : Gt) (v0 : Option Nat) : L_L_law G v0 M_in = J_L_law_18 G FU v0 (some 0) (some 181) 0 M_s := by
  obtain ⟨w1, e1, f1⟩ := get_1
  obtain ⟨w2, e2, f2⟩ := get_s
  exact law_gen G v0 rfl e1 f1 nc_1 e2 f2

/-- the reference's two fields: as they were -/
def K3 (M M' : Mem) : Prop := kd M 181 = 11 → kd M' 181 = 11 ∧ gi M' 181 33 = gi M 181 33 ∧ gi M' 181 34 = gi M 181 34
/-- 0 if they were 0 -/
def K4 (M M' : Mem) : Prop := kd M 181 = 11 → kd M' 181 = 11 ∧ (gi M 181 33 = 0 ∧ gi M 181 34 = 0 → gi M' 181 33 = 0 ∧ gi M' 181 34 = 0)
theorem K3.rf {M : Mem} : K3 M M := fun h => ⟨h, rfl, rfl⟩
theorem K4.rf {M : Mem} : K4 M M := fun h => ⟨h, fun q => q⟩
theorem K3.trans {A B C : Mem} (h : K3 A B) (g : K3 B C) : K3 A C := fun q => ⟨(g (h q).1).1, (g (h q).1).2.1.trans (h q).2.1, (g (h q).1).2.2.trans (h q).2.2⟩
theorem K4.trans {A B C : Mem} (h : K4 A B) (g : K4 B C) : K4 A C := fun q => ⟨(g (h q).1).1, fun z => (g (h q).1).2 ((h q).2 z)⟩
theorem K3.to4 {A B : Mem} (h : K3 A B) : K4 A B := fun q => ⟨(h q).1, fun z => ⟨(h q).2.1.trans z.1, (h q).2.2.trans z.2⟩⟩
section Kx
variable {M M1 : Mem} {k j : Nat} {a : Option Nat} {x i : Int32} {y : Int64}
theorem k3_pI (hj : j ≠ 33 ∧ j ≠ 34) (h : pI M k j a x = some M1) : K3 M M1 := by
  cases a with
  | none => cases h
  | some a =>
    unfold pI at h; dsimp only at h
    split at h
    · cases h
      exact fun q => ⟨q, by rw [gi_si, if_neg (fun e => hj.1 e.2.symm)], by rw [gi_si, if_neg (fun e => hj.2 e.2.symm)]⟩
    · cases h
theorem k3_pZ (hj : j ≠ 33 ∧ j ≠ 34) (h : pZ M k j a x = some M1) : K3 M M1 := by
  unfold pZ at h
  split at h
  · exact k3_pI hj h
  · cases h
theorem k3_pL (h : pL M k j a y = some M1) : K3 M M1 := by
  cases a with
  | none => cases h
  | some a =>
    unfold pL at h; dsimp only at h
    split at h
    · cases h; exact fun q => ⟨q, rfl, rfl⟩
    · cases h
theorem k3_uI (hk : k ≠ 11) (h : uI M k a i x = some M1) : K3 M M1 := by
  cases a with
  | none => cases h
  | some a =>
    unfold uI at h; dsimp only at h
    split at h
    · rename_i e
      cases h
      intro q
      have : (181 : Nat) ≠ a := fun z => hk (by rw [← e.1, ← z, q])
      exact ⟨q, by rw [gi_si, if_neg (fun e => this e.1)], by rw [gi_si, if_neg (fun e => this e.1)]⟩
    · cases h
theorem k3_uN (hk : k ≠ 11) (h : uN M k a i x = some M1) : K3 M M1 := by
  cases a with
  | none => cases h
  | some a =>
    unfold uN at h; dsimp only at h
    split at h
    · rename_i e
      cases h
      intro q
      have : (181 : Nat) ≠ a := fun z => hk (by rw [← e.1, ← z, q])
      exact ⟨q, by rw [gi_si, if_neg (fun e => this e.1)], by rw [gi_si, if_neg (fun e => this e.1)]⟩
    · cases h
theorem k3_uL (h : uL M k a i y = some M1) : K3 M M1 := by
  cases a with
  | none => cases h
  | some a =>
    unfold uL at h; dsimp only at h
    split at h
    · cases h; exact fun q => ⟨q, rfl, rfl⟩
    · cases h
theorem k4_br {M2 M3 : Mem} (hj : j = 33 ∨ j = 34) (h1 : pZ M 11 j a 1 = some M1) (h2 : K3 M1 M2) (h3 : pZ M2 11 j a 0 = some M3) : K4 M M3 := by
  unfold pZ at h1 h3
  rw [if_pos (Or.inr rfl)] at h1
  rw [if_pos (Or.inl rfl)] at h3
  cases a with
  | none => cases h1
  | some a =>
    unfold pI at h1 h3; dsimp only at h1 h3
    split at h1
    · split at h3
      · cases h1; cases h3
        intro q
        have g := h2 q
        refine ⟨g.1, fun z => ?_⟩
        have e1 : gi M2 181 33 = gi (si M a j 1) 181 33 := g.2.1
        have e2 : gi M2 181 34 = gi (si M a j 1) 181 34 := g.2.2
        rw [gi_si] at e1 e2
        rw [gi_si, gi_si]
        by_cases ha : 181 = a
        · rcases hj with rfl | rfl
          · rw [if_pos ⟨ha, rfl⟩, if_neg (by omega), e2, if_neg (by omega)]; exact ⟨rfl, z.2⟩
          · rw [if_neg (by omega), if_pos ⟨ha, rfl⟩, e1, if_neg (by omega)]; exact ⟨z.1, rfl⟩
        · rw [if_neg (fun e => ha e.1), if_neg (fun e => ha e.1), e1, e2, if_neg (fun e => ha e.1), if_neg (fun e => ha e.1)]; exact z
      · cases h3
    · cases h1
end Kx
theorem kxJ_X11_feed_71 {M : Mem} {z : Int32 × Mem} {k_18 : Option Nat → Int32 → Int32 → Int32 → Int32 → Int32 → Int32 → Mem → Option (Int32 × Mem)} (hk_18 : ∀ (v0 : Option Nat) (v1 : Int32) (v2 : Int32) (v3 : Int32) (v4 : Int32) (v5 : Int32) (v6 : Int32) (Ma : Mem), k_18 v0 v1 v2 v3 v4 v5 v6 Ma = some z → K3 Ma z.2) {v0 : Option Nat} {v1 : Int32} {v2 : Int32} {v3 : Int32} {v4 : Int32} {v5 : Int32} {v6 : Int32} {s0 : Int32} (h : J_X11_feed_71 k_18 v0 v1 v2 v3 v4 v5 v6 s0 M = some z) : K3 M z.2 := by
  unfold J_X11_feed_71 at h
  have hg : K3 M M := K3.rf
  obtain ⟨_, -, h⟩ := bnd h
  obtain ⟨_, -, h⟩ := bnd h
  have h := nnz h
  obtain ⟨_, hw, h⟩ := bnd h
  have hg := hg.trans (k3_uN (by decide) hw)
  obtain ⟨_, -, h⟩ := bnd h
  obtain ⟨_, hw, h⟩ := bnd h
  have hg := hg.trans (k3_pI (by decide) hw)
  exact hg.trans (hk_18 _ _ _ _ _ _ _ _ h)
theorem kxJ_X11_feed_18 {z : Int32 × Mem} : ∀ (n : Nat) (v0 : Option Nat) (v1 : Int32) (v2 : Int32) (v3 : Int32) (v4 : Int32) (v5 : Int32) (v6 : Int32) (M : Mem), J_X11_feed_18 n v0 v1 v2 v3 v4 v5 v6 M = some z → K3 M z.2 := by
  intro n
  induction n with
  | zero => intro v0 v1 v2 v3 v4 v5 v6 M h; exact nomatch h
  | succ n ih =>
    intro v0 v1 v2 v3 v4 v5 v6 M h
    unfold J_X11_feed_18 at h
    have hg : K3 M M := K3.rf
    rcases itor h with h | h
    · obtain ⟨_, -, h⟩ := bnd h
      cases h; exact hg
    · rcases itor h with h | h
      · rcases itor h with h | h
        · rcases itor h with h | h
          · rcases itor h with h | h
            · exact hg.trans (kxJ_X11_feed_71 ih h)
            · exact hg.trans (kxJ_X11_feed_71 ih h)
          · exact hg.trans (kxJ_X11_feed_71 ih h)
        · exact hg.trans (kxJ_X11_feed_71 ih h)
      · exact hg.trans (kxJ_X11_feed_71 ih h)
theorem kx_X11_feed {M : Mem} {z : Int32 × Mem} {v0 : Option Nat} {v1 : Int32} {v2 : Int32} {v3 : Int32} {v4 : Int32} {v5 : Int32} (h : L_X11_feed v0 v1 v2 v3 v4 v5 M = some z) : K3 M z.2 := by
  unfold L_X11_feed at h
  have hg : K3 M M := K3.rf
  obtain ⟨_, -, h⟩ := bnd h
  rcases itor h with h | h
  · exact hg.trans (kxJ_X11_feed_18 FU _ _ _ _ _ _ _ _ h)
  · cases h; exact hg
theorem kx_X11_end {M : Mem} {z : Int32 × Mem} {v0 : Option Nat} {v1 : Int32} (h : L_X11_end v0 v1 M = some z) : K3 M z.2 := by
  unfold L_X11_end at h
  have hg : K3 M M := K3.rf
  rcases itor h with h | h
  · cases h; exact hg
  · obtain ⟨_, -, h⟩ := bnd h
    rcases itor h with h | h
    · obtain ⟨_, hw, h⟩ := bnd h
      have hg := hg.trans (k3_pI (by decide) hw)
      cases h; exact hg
    · cases h; exact hg
theorem kx_X11_byteAt {M : Mem} {z : Int32 × Mem} {v0 : Option Nat} {v1 : Int32} (h : L_X11_byteAt v0 v1 M = some z) : K3 M z.2 := by
  unfold L_X11_byteAt at h
  have hg : K3 M M := K3.rf
  obtain ⟨_, -, h⟩ := bnd h
  rcases itor h with h | h
  · cases h; exact hg
  · obtain ⟨_, -, h⟩ := bnd h
    obtain ⟨_, -, h⟩ := bnd h
    cases h; exact hg
theorem kx_X11_isLetter {M : Mem} {z : Int32 × Mem} {v0 : Int32} (h : L_X11_isLetter v0 M = some z) : K3 M z.2 := by
  unfold L_X11_isLetter at h
  have hg : K3 M M := K3.rf
  rcases itor h with h | h
  · obtain ⟨_, -, h⟩ := bnd h
    cases h; exact hg
  · rcases itor h with h | h
    · obtain ⟨_, -, h⟩ := bnd h
      cases h; exact hg
    · obtain ⟨_, -, h⟩ := bnd h
      cases h; exact hg
theorem kx_X11_isDigit {M : Mem} {z : Int32 × Mem} {v0 : Int32} (h : L_X11_isDigit v0 M = some z) : K3 M z.2 := by
  unfold L_X11_isDigit at h
  have hg : K3 M M := K3.rf
  rcases itor h with h | h
  · obtain ⟨_, -, h⟩ := bnd h
    cases h; exact hg
  · rcases itor h with h | h
    · obtain ⟨_, -, h⟩ := bnd h
      cases h; exact hg
    · obtain ⟨_, -, h⟩ := bnd h
      cases h; exact hg
theorem kxJ_X11_named_65 {M : Mem} {z : Int64 × Mem} {v4 : Int32} {v5 : Int64} (h : J_X11_named_65 v4 v5 M = some z) : K3 M z.2 := by
  unfold J_X11_named_65 at h
  have hg : K3 M M := K3.rf
  rcases itor h with h | h
  · cases h; exact hg
  · cases h; exact hg
theorem kxJ_X11_named_46 {M : Mem} {z : Int64 × Mem} {v3 : Int32} {v4 : Int32} {v5 : Int64} (h : J_X11_named_46 v3 v4 v5 M = some z) : K3 M z.2 := by
  unfold J_X11_named_46 at h
  have hg : K3 M M := K3.rf
  rcases itor h with h | h
  · exact hg.trans (kxJ_X11_named_65 h)
  · exact hg.trans (kxJ_X11_named_65 h)
theorem kxJ_X11_named_27 {M : Mem} {z : Int64 × Mem} {v2 : Int32} {v3 : Int32} {v4 : Int32} {v5 : Int64} (h : J_X11_named_27 v2 v3 v4 v5 M = some z) : K3 M z.2 := by
  unfold J_X11_named_27 at h
  have hg : K3 M M := K3.rf
  rcases itor h with h | h
  · exact hg.trans (kxJ_X11_named_46 h)
  · exact hg.trans (kxJ_X11_named_46 h)
theorem kx_X11_named {M : Mem} {z : Int64 × Mem} {v0 : Int32} {v1 : Int32} {v2 : Int32} {v3 : Int32} {v4 : Int32} (h : L_X11_named v0 v1 v2 v3 v4 M = some z) : K3 M z.2 := by
  unfold L_X11_named at h
  have hg : K3 M M := K3.rf
  rcases itor h with h | h
  · exact hg.trans (kxJ_X11_named_27 h)
  · exact hg.trans (kxJ_X11_named_27 h)
theorem kx_X11_isSignByte {M : Mem} {z : Int32 × Mem} {v0 : Int32} (h : L_X11_isSignByte v0 M = some z) : K3 M z.2 := by
  unfold L_X11_isSignByte at h
  have hg : K3 M M := K3.rf
  rcases itor h with h | h
  · obtain ⟨_, -, h⟩ := bnd h
    cases h; exact hg
  rcases itor h with h | h
  · obtain ⟨_, -, h⟩ := bnd h
    cases h; exact hg
  rcases itor h with h | h
  · obtain ⟨_, -, h⟩ := bnd h
    cases h; exact hg
  rcases itor h with h | h
  · obtain ⟨_, -, h⟩ := bnd h
    cases h; exact hg
  rcases itor h with h | h
  · obtain ⟨_, -, h⟩ := bnd h
    cases h; exact hg
  rcases itor h with h | h
  · obtain ⟨_, -, h⟩ := bnd h
    cases h; exact hg
  rcases itor h with h | h
  · obtain ⟨_, -, h⟩ := bnd h
    cases h; exact hg
  rcases itor h with h | h
  · obtain ⟨_, -, h⟩ := bnd h
    cases h; exact hg
  rcases itor h with h | h
  · obtain ⟨_, -, h⟩ := bnd h
    cases h; exact hg
  rcases itor h with h | h
  · obtain ⟨_, -, h⟩ := bnd h
    cases h; exact hg
  rcases itor h with h | h
  · obtain ⟨_, -, h⟩ := bnd h
    cases h; exact hg
  rcases itor h with h | h
  · obtain ⟨_, -, h⟩ := bnd h
    cases h; exact hg
  rcases itor h with h | h
  · obtain ⟨_, -, h⟩ := bnd h
    cases h; exact hg
  rcases itor h with h | h
  · obtain ⟨_, -, h⟩ := bnd h
    cases h; exact hg
  rcases itor h with h | h
  · obtain ⟨_, -, h⟩ := bnd h
    cases h; exact hg
  rcases itor h with h | h
  · obtain ⟨_, -, h⟩ := bnd h
    cases h; exact hg
  rcases itor h with h | h
  · obtain ⟨_, -, h⟩ := bnd h
    cases h; exact hg
  rcases itor h with h | h
  · obtain ⟨_, -, h⟩ := bnd h
    cases h; exact hg
  obtain ⟨_, -, h⟩ := bnd h
  cases h; exact hg
theorem kxJ_X11_advance_26 {M : Mem} {z : Unit × Mem} {k_0 : Option Nat → Mem → Option (Unit × Mem)} (hk_0 : ∀ (v0 : Option Nat) (Ma : Mem), k_0 v0 Ma = some z → K3 Ma z.2) {v0 : Option Nat} (h : J_X11_advance_26 k_0 v0 M = some z) : K3 M z.2 := by
  unfold J_X11_advance_26 at h
  have hg : K3 M M := K3.rf
  obtain ⟨_, -, h⟩ := bnd h
  obtain ⟨_, hw, h⟩ := bnd h
  have hg := hg.trans (k3_pI (by decide) hw)
  exact hg.trans (hk_0 _ _ h)
theorem kxJ_X11_advance_139 {M : Mem} {z : Unit × Mem} {k_85 : Option Nat → Mem → Option (Unit × Mem)} (hk_85 : ∀ (v0 : Option Nat) (Ma : Mem), k_85 v0 Ma = some z → K3 Ma z.2) {v0 : Option Nat} (h : J_X11_advance_139 k_85 v0 M = some z) : K3 M z.2 := by
  unfold J_X11_advance_139 at h
  have hg : K3 M M := K3.rf
  obtain ⟨_, -, h⟩ := bnd h
  obtain ⟨_, hw, h⟩ := bnd h
  have hg := hg.trans (k3_pI (by decide) hw)
  exact hg.trans (hk_85 _ _ h)
theorem kxJ_X11_advance_209 {M : Mem} {z : Unit × Mem} {k_177 : Option Nat → Int32 → Mem → Option (Unit × Mem)} (hk_177 : ∀ (v0 : Option Nat) (v2 : Int32) (Ma : Mem), k_177 v0 v2 Ma = some z → K3 Ma z.2) {v0 : Option Nat} {v2 : Int32} (h : J_X11_advance_209 k_177 v0 v2 M = some z) : K3 M z.2 := by
  unfold J_X11_advance_209 at h
  have hg : K3 M M := K3.rf
  exact hg.trans (hk_177 _ _ _ h)
theorem kxJ_X11_advance_215 {M : Mem} {z : Unit × Mem} {v0 : Option Nat} (h : J_X11_advance_215 v0 M = some z) : K3 M z.2 := by
  unfold J_X11_advance_215 at h
  have hg : K3 M M := K3.rf
  obtain ⟨_, -, h⟩ := bnd h
  rcases itor h with h | h
  · cases h; exact hg
  · obtain ⟨_, hw, h⟩ := bnd h
    have hg := hg.trans (k3_pI (by decide) hw)
    cases h; exact hg
theorem kxJ_X11_advance_177 {z : Unit × Mem} : ∀ (n : Nat) (v0 : Option Nat) (v2 : Int32) (M : Mem), J_X11_advance_177 n v0 v2 M = some z → K3 M z.2 := by
  intro n
  induction n with
  | zero => intro v0 v2 M h; exact nomatch h
  | succ n ih =>
    intro v0 v2 M h
    unfold J_X11_advance_177 at h
    have hg : K3 M M := K3.rf
    rcases itor h with h | h
    · exact hg.trans (kxJ_X11_advance_215 h)
    · obtain ⟨_, -, h⟩ := bnd h
      rcases itor h with h | h
      · exact hg.trans (kxJ_X11_advance_215 h)
      · obtain ⟨_, -, h⟩ := bnd h
        obtain ⟨_, -, h⟩ := bnd h
        obtain ⟨_, -, h⟩ := bnd h
        rcases itor h with h | h
        · exact hg.trans (kxJ_X11_advance_209 ih h)
        · obtain ⟨_, hw, h⟩ := bnd h
          have hg := hg.trans (k3_pI (by decide) hw)
          exact hg.trans (kxJ_X11_advance_209 ih h)
theorem kxJ_X11_advance_172 {M : Mem} {z : Unit × Mem} {v0 : Option Nat} {s0 : Option Nat} {s1 : Int32} (h : J_X11_advance_172 v0 s0 s1 M = some z) : K3 M z.2 := by
  unfold J_X11_advance_172 at h
  have hg : K3 M M := K3.rf
  obtain ⟨_, hw, h⟩ := bnd h
  have hg := hg.trans (k3_pI (by decide) hw)
  exact hg.trans (kxJ_X11_advance_177 FU _ _ _ h)
theorem kxJ_X11_advance_85 {z : Unit × Mem} : ∀ (n : Nat) (v0 : Option Nat) (M : Mem), J_X11_advance_85 n v0 M = some z → K3 M z.2 := by
  intro n
  induction n with
  | zero => intro v0 M h; exact nomatch h
  | succ n ih =>
    intro v0 M h
    unfold J_X11_advance_85 at h
    have hg : K3 M M := K3.rf
    obtain ⟨_, -, h⟩ := bnd h
    obtain ⟨_, -, h⟩ := bnd h
    obtain ⟨w1, hw, h⟩ := bnd h
    have hg := hg.trans (kx_X11_byteAt hw)
    obtain ⟨w2, hw, h⟩ := bnd h
    have hg := hg.trans (kx_X11_isLetter hw)
    rcases itor h with h | h
    · obtain ⟨_, -, h⟩ := bnd h
      obtain ⟨_, -, h⟩ := bnd h
      rcases itor h with h | h
      · exact hg.trans (kxJ_X11_advance_172 h)
      · exact hg.trans (kxJ_X11_advance_172 h)
    · obtain ⟨_, -, h⟩ := bnd h
      obtain ⟨_, -, h⟩ := bnd h
      rcases itor h with h | h
      · exact hg.trans (kxJ_X11_advance_139 ih h)
      · obtain ⟨_, -, h⟩ := bnd h
        obtain ⟨_, -, h⟩ := bnd h
        obtain ⟨_, -, h⟩ := bnd h
        obtain ⟨w3, hw, h⟩ := bnd h
        have hg := hg.trans (kx_X11_byteAt hw)
        obtain ⟨_, hw, h⟩ := bnd h
        have hg := hg.trans (k3_pL hw)
        exact hg.trans (kxJ_X11_advance_139 ih h)
theorem kxJ_X11_advance_293 {M : Mem} {z : Unit × Mem} {k_242 : Option Nat → Mem → Option (Unit × Mem)} (hk_242 : ∀ (v0 : Option Nat) (Ma : Mem), k_242 v0 Ma = some z → K3 Ma z.2) {v0 : Option Nat} (h : J_X11_advance_293 k_242 v0 M = some z) : K3 M z.2 := by
  unfold J_X11_advance_293 at h
  have hg : K3 M M := K3.rf
  obtain ⟨_, -, h⟩ := bnd h
  obtain ⟨_, hw, h⟩ := bnd h
  have hg := hg.trans (k3_pI (by decide) hw)
  exact hg.trans (hk_242 _ _ h)
theorem kxJ_X11_advance_326 {M : Mem} {z : Unit × Mem} {s0 : Option Nat} {s1 : Int32} (h : J_X11_advance_326 s0 s1 M = some z) : K3 M z.2 := by
  unfold J_X11_advance_326 at h
  have hg : K3 M M := K3.rf
  obtain ⟨_, hw, h⟩ := bnd h
  have hg := hg.trans (k3_pI (by decide) hw)
  cases h; exact hg
theorem kxJ_X11_advance_242 {z : Unit × Mem} : ∀ (n : Nat) (v0 : Option Nat) (M : Mem), J_X11_advance_242 n v0 M = some z → K3 M z.2 := by
  intro n
  induction n with
  | zero => intro v0 M h; exact nomatch h
  | succ n ih =>
    intro v0 M h
    unfold J_X11_advance_242 at h
    have hg : K3 M M := K3.rf
    obtain ⟨_, -, h⟩ := bnd h
    obtain ⟨_, -, h⟩ := bnd h
    obtain ⟨w4, hw, h⟩ := bnd h
    have hg := hg.trans (kx_X11_byteAt hw)
    obtain ⟨w5, hw, h⟩ := bnd h
    have hg := hg.trans (kx_X11_isDigit hw)
    rcases itor h with h | h
    · obtain ⟨_, -, h⟩ := bnd h
      obtain ⟨_, -, h⟩ := bnd h
      rcases itor h with h | h
      · exact hg.trans (kxJ_X11_advance_326 h)
      · exact hg.trans (kxJ_X11_advance_326 h)
    · obtain ⟨_, -, h⟩ := bnd h
      obtain ⟨_, -, h⟩ := bnd h
      rcases itor h with h | h
      · exact hg.trans (kxJ_X11_advance_293 ih h)
      · obtain ⟨_, -, h⟩ := bnd h
        obtain ⟨_, -, h⟩ := bnd h
        obtain ⟨_, -, h⟩ := bnd h
        obtain ⟨w6, hw, h⟩ := bnd h
        have hg := hg.trans (kx_X11_byteAt hw)
        obtain ⟨_, hw, h⟩ := bnd h
        have hg := hg.trans (k3_pI (by decide) hw)
        exact hg.trans (kxJ_X11_advance_293 ih h)
theorem kxJ_X11_advance_355 {M : Mem} {z : Unit × Mem} {s0 : Option Nat} {s1 : Int32} (h : J_X11_advance_355 s0 s1 M = some z) : K3 M z.2 := by
  unfold J_X11_advance_355 at h
  have hg : K3 M M := K3.rf
  obtain ⟨_, hw, h⟩ := bnd h
  have hg := hg.trans (k3_pI (by decide) hw)
  cases h; exact hg
theorem kxJ_X11_advance_0 {z : Unit × Mem} : ∀ (n : Nat) (v0 : Option Nat) (M : Mem), J_X11_advance_0 n v0 M = some z → K3 M z.2 := by
  intro n
  induction n with
  | zero => intro v0 M h; exact nomatch h
  | succ n ih =>
    intro v0 M h
    unfold J_X11_advance_0 at h
    have hg : K3 M M := K3.rf
    obtain ⟨_, -, h⟩ := bnd h
    obtain ⟨_, -, h⟩ := bnd h
    obtain ⟨w7, hw, h⟩ := bnd h
    have hg := hg.trans (kx_X11_byteAt hw)
    rcases itor h with h | h
    · exact hg.trans (kxJ_X11_advance_26 ih h)
    · obtain ⟨_, -, h⟩ := bnd h
      obtain ⟨_, -, h⟩ := bnd h
      obtain ⟨w8, hw, h⟩ := bnd h
      have hg := hg.trans (kx_X11_byteAt hw)
      rcases itor h with h | h
      · obtain ⟨_, -, h⟩ := bnd h
        obtain ⟨_, hw, h⟩ := bnd h
        have hg := hg.trans (k3_pI (by decide) hw)
        obtain ⟨_, -, h⟩ := bnd h
        obtain ⟨_, -, h⟩ := bnd h
        obtain ⟨w9, hw, h⟩ := bnd h
        have hg := hg.trans (kx_X11_byteAt hw)
        obtain ⟨_, hw, h⟩ := bnd h
        have hg := hg.trans (k3_pI (by decide) hw)
        rcases itor h with h | h
        · obtain ⟨w10, hw, h⟩ := bnd h
          have hg := hg.trans (kx_X11_isLetter hw)
          rcases itor h with h | h
          · obtain ⟨w11, hw, h⟩ := bnd h
            have hg := hg.trans (kx_X11_isDigit hw)
            rcases itor h with h | h
            · obtain ⟨_, -, h⟩ := bnd h
              obtain ⟨_, hw, h⟩ := bnd h
              have hg := hg.trans (k3_pI (by decide) hw)
              obtain ⟨w12, hw, h⟩ := bnd h
              have hg := hg.trans (kx_X11_isSignByte hw)
              rcases itor h with h | h
              · exact hg.trans (kxJ_X11_advance_355 h)
              · exact hg.trans (kxJ_X11_advance_355 h)
            · obtain ⟨_, hw, h⟩ := bnd h
              have hg := hg.trans (k3_pI (by decide) hw)
              exact hg.trans (kxJ_X11_advance_242 FU _ _ h)
          · obtain ⟨_, hw, h⟩ := bnd h
            have hg := hg.trans (k3_pL hw)
            exact hg.trans (kxJ_X11_advance_85 FU _ _ h)
        · obtain ⟨_, hw, h⟩ := bnd h
          have hg := hg.trans (k3_pI (by decide) hw)
          cases h; exact hg
      · exact hg.trans (kxJ_X11_advance_26 ih h)
theorem kx_X11_advance {M : Mem} {z : Unit × Mem} {v0 : Option Nat} (h : L_X11_advance v0 M = some z) : K3 M z.2 := by
  unfold L_X11_advance at h
  have hg : K3 M M := K3.rf
  exact hg.trans (kxJ_X11_advance_0 FU _ _ h)
theorem kx_X11_stops {M : Mem} {z : Unit × Mem} {v0 : Option Nat} (h : L_X11_stops v0 M = some z) : K3 M z.2 := by
  unfold L_X11_stops at h
  have hg : K3 M M := K3.rf
  obtain ⟨_, -, h⟩ := bnd h
  rcases itor h with h | h
  · obtain ⟨_, hw, h⟩ := bnd h
    have hg := hg.trans (k3_pZ (by decide) hw)
    obtain ⟨_, hw, h⟩ := bnd h
    have hg := hg.trans (k3_pI (by decide) hw)
    obtain ⟨_, -, h⟩ := bnd h
    obtain ⟨_, hw, h⟩ := bnd h
    have hg := hg.trans (k3_pI (by decide) hw)
    cases h; exact hg
  · cases h; exact hg
theorem kxJ_X11_tells_39 {M : Mem} {z : Unit × Mem} {v0 : Option Nat} {v1 : Int32} {v2 : Int32} (h : J_X11_tells_39 v0 v1 v2 M = some z) : K3 M z.2 := by
  unfold J_X11_tells_39 at h
  have hg : K3 M M := K3.rf
  obtain ⟨_, hw, h⟩ := bnd h
  have hg := hg.trans (k3_pI (by decide) hw)
  obtain ⟨_, hw, h⟩ := bnd h
  have hg := hg.trans (k3_pI (by decide) hw)
  cases h; exact hg
theorem kx_X11_tells {M : Mem} {z : Unit × Mem} {v0 : Option Nat} {v1 : Int32} {v2 : Int32} (h : L_X11_tells v0 v1 v2 M = some z) : K3 M z.2 := by
  unfold L_X11_tells at h
  have hg : K3 M M := K3.rf
  obtain ⟨_, -, h⟩ := bnd h
  rcases itor h with h | h
  · cases h; exact hg
  · obtain ⟨_, -, h⟩ := bnd h
    rcases itor h with h | h
    · exact hg.trans (kxJ_X11_tells_39 h)
    · obtain ⟨_, -, h⟩ := bnd h
      rcases itor h with h | h
      · cases h; exact hg
      · obtain ⟨_, -, h⟩ := bnd h
        rcases itor h with h | h
        · exact hg.trans (kxJ_X11_tells_39 h)
        · obtain ⟨_, -, h⟩ := bnd h
          rcases itor h with h | h
          · exact hg.trans (kxJ_X11_tells_39 h)
          · cases h; exact hg
theorem kx_X11_isSign {M : Mem} {z : Int32 × Mem} {v0 : Option Nat} {v1 : Int32} (h : L_X11_isSign v0 v1 M = some z) : K3 M z.2 := by
  unfold L_X11_isSign at h
  have hg : K3 M M := K3.rf
  obtain ⟨_, -, h⟩ := bnd h
  rcases itor h with h | h
  · obtain ⟨_, -, h⟩ := bnd h
    cases h; exact hg
  · obtain ⟨_, -, h⟩ := bnd h
    obtain ⟨_, -, h⟩ := bnd h
    obtain ⟨_, -, h⟩ := bnd h
    rcases itor h with h | h
    · obtain ⟨_, -, h⟩ := bnd h
      cases h; exact hg
    · obtain ⟨_, -, h⟩ := bnd h
      cases h; exact hg
theorem kx_X11_takes {M : Mem} {z : Int32 × Mem} {v0 : Option Nat} {v1 : Int32} (h : L_X11_takes v0 v1 M = some z) : K3 M z.2 := by
  unfold L_X11_takes at h
  have hg : K3 M M := K3.rf
  obtain ⟨_, -, h⟩ := bnd h
  rcases itor h with h | h
  · obtain ⟨_, -, h⟩ := bnd h
    cases h; exact hg
  · obtain ⟨_, -, h⟩ := bnd h
    obtain ⟨w1, hw, h⟩ := bnd h
    have hg := hg.trans (kx_X11_isSign hw)
    rcases itor h with h | h
    · obtain ⟨_, -, h⟩ := bnd h
      obtain ⟨w2, hw, h⟩ := bnd h
      have hg := hg.trans (kx_X11_advance hw)
      obtain ⟨_, -, h⟩ := bnd h
      cases h; exact hg
    · obtain ⟨_, -, h⟩ := bnd h
      cases h; exact hg
theorem kx_X11_must {M : Mem} {z : Unit × Mem} {v0 : Option Nat} {v1 : Int32} (h : L_X11_must v0 v1 M = some z) : K3 M z.2 := by
  unfold L_X11_must at h
  have hg : K3 M M := K3.rf
  obtain ⟨_, -, h⟩ := bnd h
  rcases itor h with h | h
  · obtain ⟨_, -, h⟩ := bnd h
    obtain ⟨w1, hw, h⟩ := bnd h
    have hg := hg.trans (kx_X11_isSign hw)
    rcases itor h with h | h
    · obtain ⟨_, -, h⟩ := bnd h
      obtain ⟨w2, hw, h⟩ := bnd h
      have hg := hg.trans (kx_X11_stops hw)
      cases h; exact hg
    · obtain ⟨_, -, h⟩ := bnd h
      obtain ⟨w3, hw, h⟩ := bnd h
      have hg := hg.trans (kx_X11_advance hw)
      cases h; exact hg
  · cases h; exact hg
theorem kx_X11_isWord {M : Mem} {z : Int32 × Mem} {v0 : Option Nat} {v1 : Int32} (h : L_X11_isWord v0 v1 M = some z) : K3 M z.2 := by
  unfold L_X11_isWord at h
  have hg : K3 M M := K3.rf
  obtain ⟨_, -, h⟩ := bnd h
  rcases itor h with h | h
  · obtain ⟨_, -, h⟩ := bnd h
    cases h; exact hg
  · obtain ⟨_, -, h⟩ := bnd h
    rcases itor h with h | h
    · obtain ⟨_, -, h⟩ := bnd h
      cases h; exact hg
    · obtain ⟨_, -, h⟩ := bnd h
      rcases itor h with h | h
      · obtain ⟨_, -, h⟩ := bnd h
        cases h; exact hg
      · obtain ⟨_, -, h⟩ := bnd h
        cases h; exact hg
theorem kx_X11_emit {M : Mem} {z : Unit × Mem} {v0 : Option Nat} {v1 : Int32} {v2 : Int64} {v4 : Int32} (h : L_X11_emit v0 v1 v2 v4 M = some z) : K3 M z.2 := by
  unfold L_X11_emit at h
  have hg : K3 M M := K3.rf
  obtain ⟨_, -, h⟩ := bnd h
  obtain ⟨_, -, h⟩ := bnd h
  obtain ⟨_, hw, h⟩ := bnd h
  have hg := hg.trans (k3_uI (by decide) hw)
  obtain ⟨_, -, h⟩ := bnd h
  obtain ⟨_, -, h⟩ := bnd h
  obtain ⟨_, hw, h⟩ := bnd h
  have hg := hg.trans (k3_uL hw)
  obtain ⟨_, -, h⟩ := bnd h
  obtain ⟨_, -, h⟩ := bnd h
  obtain ⟨_, hw, h⟩ := bnd h
  have hg := hg.trans (k3_uI (by decide) hw)
  obtain ⟨_, -, h⟩ := bnd h
  obtain ⟨_, hw, h⟩ := bnd h
  have hg := hg.trans (k3_pI (by decide) hw)
  cases h; exact hg
theorem kxJ_X11_yearOf_26 {M : Mem} {z : Int32 × Mem} {v0 : Option Nat} {v2 : Int32} (h : J_X11_yearOf_26 v0 v2 M = some z) : K3 M z.2 := by
  unfold J_X11_yearOf_26 at h
  have hg : K3 M M := K3.rf
  obtain ⟨_, -, h⟩ := bnd h
  obtain ⟨w1, hw, h⟩ := bnd h
  have hg := hg.trans (kx_X11_tells hw)
  cases h; exact hg
theorem kx_X11_yearOf {M : Mem} {z : Int32 × Mem} {v0 : Option Nat} {v1 : Int32} {v2 : Int32} (h : L_X11_yearOf v0 v1 v2 M = some z) : K3 M z.2 := by
  unfold L_X11_yearOf at h
  have hg : K3 M M := K3.rf
  rcases itor h with h | h
  · exact hg.trans (kxJ_X11_yearOf_26 h)
  · rcases itor h with h | h
    · exact hg.trans (kxJ_X11_yearOf_26 h)
    · obtain ⟨_, -, h⟩ := bnd h
      rcases itor h with h | h
      · obtain ⟨_, -, h⟩ := bnd h
        obtain ⟨_, hw, h⟩ := bnd h
        have hg := hg.trans (k3_pI (by decide) hw)
        cases h; exact hg
      · exact hg.trans (kxJ_X11_yearOf_26 h)
theorem kxJ_X11_takesName_14 {M : Mem} {z : Int64 × Mem} {v0 : Option Nat} (h : J_X11_takesName_14 v0 M = some z) : K3 M z.2 := by
  unfold J_X11_takesName_14 at h
  have hg : K3 M M := K3.rf
  obtain ⟨_, -, h⟩ := bnd h
  obtain ⟨w1, hw, h⟩ := bnd h
  have hg := hg.trans (kx_X11_stops hw)
  cases h; exact hg
theorem kx_X11_takesName {M : Mem} {z : Int64 × Mem} {v0 : Option Nat} (h : L_X11_takesName v0 M = some z) : K3 M z.2 := by
  unfold L_X11_takesName at h
  have hg : K3 M M := K3.rf
  obtain ⟨_, -, h⟩ := bnd h
  rcases itor h with h | h
  · exact hg.trans (kxJ_X11_takesName_14 h)
  · obtain ⟨_, -, h⟩ := bnd h
    rcases itor h with h | h
    · obtain ⟨_, -, h⟩ := bnd h
      obtain ⟨_, -, h⟩ := bnd h
      obtain ⟨w2, hw, h⟩ := bnd h
      have hg := hg.trans (kx_X11_advance hw)
      cases h; exact hg
    · exact hg.trans (kxJ_X11_takesName_14 h)
theorem kxJ_X11_takesNumber_15 {M : Mem} {z : Int32 × Mem} {v0 : Option Nat} (h : J_X11_takesNumber_15 v0 M = some z) : K3 M z.2 := by
  unfold J_X11_takesNumber_15 at h
  have hg : K3 M M := K3.rf
  obtain ⟨_, -, h⟩ := bnd h
  obtain ⟨w1, hw, h⟩ := bnd h
  have hg := hg.trans (kx_X11_stops hw)
  cases h; exact hg
theorem kx_X11_takesNumber {M : Mem} {z : Int32 × Mem} {v0 : Option Nat} (h : L_X11_takesNumber v0 M = some z) : K3 M z.2 := by
  unfold L_X11_takesNumber at h
  have hg : K3 M M := K3.rf
  obtain ⟨_, -, h⟩ := bnd h
  rcases itor h with h | h
  · exact hg.trans (kxJ_X11_takesNumber_15 h)
  · obtain ⟨_, -, h⟩ := bnd h
    rcases itor h with h | h
    · obtain ⟨_, -, h⟩ := bnd h
      obtain ⟨_, -, h⟩ := bnd h
      obtain ⟨w2, hw, h⟩ := bnd h
      have hg := hg.trans (kx_X11_advance hw)
      cases h; exact hg
    · exact hg.trans (kxJ_X11_takesNumber_15 h)
theorem kxJ_X11_plainPart_105 {M : Mem} {z : Unit × Mem} {v0 : Option Nat} {v1 : Int32} (h : J_X11_plainPart_105 v0 v1 M = some z) : K3 M z.2 := by
  unfold J_X11_plainPart_105 at h
  have hg : K3 M M := K3.rf
  rcases itor h with h | h
  · cases h; exact hg
  · obtain ⟨_, -, h⟩ := bnd h
    obtain ⟨w1, hw, h⟩ := bnd h
    have hg := hg.trans (kx_X11_emit hw)
    cases h; exact hg
theorem kxJ_X11_plainPart_98 {M : Mem} {z : Unit × Mem} {v0 : Option Nat} {v1 : Int32} (h : J_X11_plainPart_98 v0 v1 M = some z) : K3 M z.2 := by
  unfold J_X11_plainPart_98 at h
  have hg : K3 M M := K3.rf
  exact hg.trans (kxJ_X11_plainPart_105 h)
theorem kx_X11_plainPart {M : Mem} {z : Unit × Mem} {v0 : Option Nat} (h : L_X11_plainPart v0 M = some z) : K3 M z.2 := by
  unfold L_X11_plainPart at h
  have hg : K3 M M := K3.rf
  obtain ⟨_, -, h⟩ := bnd h
  obtain ⟨w2, hw, h⟩ := bnd h
  have hg := hg.trans (kx_X11_takes hw)
  obtain ⟨_, -, h⟩ := bnd h
  rcases itor h with h | h
  · obtain ⟨_, -, h⟩ := bnd h
    rcases itor h with h | h
    · obtain ⟨_, -, h⟩ := bnd h
      rcases itor h with h | h
      · obtain ⟨_, -, h⟩ := bnd h
        obtain ⟨w3, hw, h⟩ := bnd h
        have hg := hg.trans (kx_X11_stops hw)
        exact hg.trans (kxJ_X11_plainPart_105 h)
      · obtain ⟨_, -, h⟩ := bnd h
        obtain ⟨_, -, h⟩ := bnd h
        obtain ⟨_, -, h⟩ := bnd h
        obtain ⟨w4, hw, h⟩ := bnd h
        have hg := hg.trans (kx_X11_advance hw)
        obtain ⟨_, -, h⟩ := bnd h
        obtain ⟨w5, hw, h⟩ := bnd h
        have hg := hg.trans (kx_X11_takes hw)
        rcases itor h with h | h
        · obtain ⟨_, -, h⟩ := bnd h
          obtain ⟨w6, hw, h⟩ := bnd h
          have hg := hg.trans (kx_X11_emit hw)
          exact hg.trans (kxJ_X11_plainPart_98 h)
        · obtain ⟨_, -, h⟩ := bnd h
          obtain ⟨w7, hw, h⟩ := bnd h
          have hg := hg.trans (kx_X11_takesName hw)
          obtain ⟨_, -, h⟩ := bnd h
          obtain ⟨w8, hw, h⟩ := bnd h
          have hg := hg.trans (kx_X11_yearOf hw)
          obtain ⟨_, -, h⟩ := bnd h
          obtain ⟨w9, hw, h⟩ := bnd h
          have hg := hg.trans (kx_X11_emit hw)
          exact hg.trans (kxJ_X11_plainPart_98 h)
    · obtain ⟨_, -, h⟩ := bnd h
      obtain ⟨_, -, h⟩ := bnd h
      obtain ⟨w10, hw, h⟩ := bnd h
      have hg := hg.trans (kx_X11_emit hw)
      obtain ⟨_, -, h⟩ := bnd h
      obtain ⟨w11, hw, h⟩ := bnd h
      have hg := hg.trans (kx_X11_advance hw)
      exact hg.trans (kxJ_X11_plainPart_105 h)
  · cases h; exact hg
theorem kxJ_X11_plainProduct_4 {z : Unit × Mem} : ∀ (n : Nat) (v0 : Option Nat) (M : Mem), J_X11_plainProduct_4 n v0 M = some z → K3 M z.2 := by
  intro n
  induction n with
  | zero => intro v0 M h; exact nomatch h
  | succ n ih =>
    intro v0 M h
    unfold J_X11_plainProduct_4 at h
    have hg : K3 M M := K3.rf
    obtain ⟨_, -, h⟩ := bnd h
    obtain ⟨w1, hw, h⟩ := bnd h
    have hg := hg.trans (kx_X11_takes hw)
    rcases itor h with h | h
    · cases h; exact hg
    · obtain ⟨_, -, h⟩ := bnd h
      obtain ⟨w2, hw, h⟩ := bnd h
      have hg := hg.trans (kx_X11_plainPart hw)
      obtain ⟨_, -, h⟩ := bnd h
      obtain ⟨w3, hw, h⟩ := bnd h
      have hg := hg.trans (kx_X11_emit hw)
      exact hg.trans (ih _ _ h)
theorem kx_X11_plainProduct {M : Mem} {z : Unit × Mem} {v0 : Option Nat} (h : L_X11_plainProduct v0 M = some z) : K3 M z.2 := by
  unfold L_X11_plainProduct at h
  have hg : K3 M M := K3.rf
  obtain ⟨_, -, h⟩ := bnd h
  obtain ⟨w4, hw, h⟩ := bnd h
  have hg := hg.trans (kx_X11_plainPart hw)
  exact hg.trans (kxJ_X11_plainProduct_4 FU _ _ h)
theorem kxJ_X11_plainSum_29 {M : Mem} {z : Unit × Mem} {k_4 : Option Nat → Mem → Option (Unit × Mem)} (hk_4 : ∀ (v0 : Option Nat) (Ma : Mem), k_4 v0 Ma = some z → K3 Ma z.2) {v0 : Option Nat} (h : J_X11_plainSum_29 k_4 v0 M = some z) : K3 M z.2 := by
  unfold J_X11_plainSum_29 at h
  have hg : K3 M M := K3.rf
  obtain ⟨_, -, h⟩ := bnd h
  obtain ⟨_, -, h⟩ := bnd h
  obtain ⟨_, -, h⟩ := bnd h
  obtain ⟨_, -, h⟩ := bnd h
  obtain ⟨w1, hw, h⟩ := bnd h
  have hg := hg.trans (kx_X11_advance hw)
  obtain ⟨_, -, h⟩ := bnd h
  obtain ⟨w2, hw, h⟩ := bnd h
  have hg := hg.trans (kx_X11_plainProduct hw)
  obtain ⟨_, -, h⟩ := bnd h
  obtain ⟨w3, hw, h⟩ := bnd h
  have hg := hg.trans (kx_X11_emit hw)
  exact hg.trans (hk_4 _ _ h)
theorem kxJ_X11_plainSum_57 {M : Mem} {z : Unit × Mem} {v0 : Option Nat} (h : J_X11_plainSum_57 v0 M = some z) : K3 M z.2 := by
  unfold J_X11_plainSum_57 at h
  have hg : K3 M M := K3.rf
  obtain ⟨_, -, h⟩ := bnd h
  obtain ⟨w4, hw, h⟩ := bnd h
  have hg := hg.trans (kx_X11_emit hw)
  cases h; exact hg
theorem kxJ_X11_plainSum_4 {z : Unit × Mem} : ∀ (n : Nat) (v0 : Option Nat) (M : Mem), J_X11_plainSum_4 n v0 M = some z → K3 M z.2 := by
  intro n
  induction n with
  | zero => intro v0 M h; exact nomatch h
  | succ n ih =>
    intro v0 M h
    unfold J_X11_plainSum_4 at h
    have hg : K3 M M := K3.rf
    obtain ⟨_, -, h⟩ := bnd h
    rcases itor h with h | h
    · exact hg.trans (kxJ_X11_plainSum_57 h)
    · obtain ⟨_, -, h⟩ := bnd h
      obtain ⟨w5, hw, h⟩ := bnd h
      have hg := hg.trans (kx_X11_isSign hw)
      rcases itor h with h | h
      · exact hg.trans (kxJ_X11_plainSum_29 ih h)
      · obtain ⟨_, -, h⟩ := bnd h
        obtain ⟨w6, hw, h⟩ := bnd h
        have hg := hg.trans (kx_X11_isSign hw)
        rcases itor h with h | h
        · exact hg.trans (kxJ_X11_plainSum_57 h)
        · exact hg.trans (kxJ_X11_plainSum_29 ih h)
theorem kx_X11_plainSum {M : Mem} {z : Unit × Mem} {v0 : Option Nat} (h : L_X11_plainSum v0 M = some z) : K3 M z.2 := by
  unfold L_X11_plainSum at h
  have hg : K3 M M := K3.rf
  obtain ⟨_, -, h⟩ := bnd h
  obtain ⟨w7, hw, h⟩ := bnd h
  have hg := hg.trans (kx_X11_plainProduct hw)
  exact hg.trans (kxJ_X11_plainSum_4 FU _ _ h)
theorem kx_X11_called {M : Mem} {z : Unit × Mem} {rF : Option Nat → Mem → Option (Unit × Mem)} (hrK : ∀ (a0 : Option Nat) (Ma : Mem) (w : Unit × Mem), rF a0 Ma = some w → K3 Ma w.2) {v0 : Option Nat} {v1 : Int64} {v3 : Int32} (h : L_X11_called rF v0 v1 v3 M = some z) : K3 M z.2 := by
  unfold L_X11_called at h
  have hg : K3 M M := K3.rf
  obtain ⟨_, -, h⟩ := bnd h
  obtain ⟨w1, hw, h⟩ := bnd h
  have hg := hg.trans (kx_X11_takes hw)
  rcases itor h with h | h
  · obtain ⟨_, -, h⟩ := bnd h
    obtain ⟨w2, hw, h⟩ := bnd h
    have hg := hg.trans (kx_X11_emit hw)
    cases h; exact hg
  · obtain ⟨_, -, h⟩ := bnd h
    obtain ⟨w3, hw, h⟩ := bnd h
    have hg := hg.trans (hrK _ _ _ hw)
    obtain ⟨_, -, h⟩ := bnd h
    obtain ⟨w4, hw, h⟩ := bnd h
    have hg := hg.trans (kx_X11_must hw)
    obtain ⟨_, -, h⟩ := bnd h
    obtain ⟨w5, hw, h⟩ := bnd h
    have hg := hg.trans (kx_X11_emit hw)
    cases h; exact hg
theorem kxJ_X11_atom_143 {M : Mem} {z : Unit × Mem} {rF : Option Nat → Mem → Option (Unit × Mem)} (hrK : ∀ (a0 : Option Nat) (Ma : Mem) (w : Unit × Mem), rF a0 Ma = some w → K3 Ma w.2) {v0 : Option Nat} (h : J_X11_atom_143 rF v0 M = some z) : K3 M z.2 := by
  unfold J_X11_atom_143 at h
  have hg : K3 M M := K3.rf
  obtain ⟨_, -, h⟩ := bnd h
  obtain ⟨_, -, h⟩ := bnd h
  obtain ⟨w1, hw, h⟩ := bnd h
  have hg := hg.trans (kx_X11_emit hw)
  obtain ⟨_, -, h⟩ := bnd h
  obtain ⟨w2, hw, h⟩ := bnd h
  have hg := hg.trans (kx_X11_advance hw)
  cases h; exact hg
theorem kxJ_X11_atom_136 {M : Mem} {z : Unit × Mem} {rF : Option Nat → Mem → Option (Unit × Mem)} (hrK : ∀ (a0 : Option Nat) (Ma : Mem) (w : Unit × Mem), rF a0 Ma = some w → K3 Ma w.2) {v0 : Option Nat} {v1 : Int32} (h : J_X11_atom_136 rF v0 v1 M = some z) : K3 M z.2 := by
  unfold J_X11_atom_136 at h
  have hg : K3 M M := K3.rf
  obtain ⟨_, -, h⟩ := bnd h
  obtain ⟨w3, hw, h⟩ := bnd h
  have hg := hg.trans (kx_X11_tells hw)
  exact hg.trans (kxJ_X11_atom_143 hrK h)
theorem kxJ_X11_atom_165 {M : Mem} {z : Unit × Mem} {rF : Option Nat → Mem → Option (Unit × Mem)} (hrK : ∀ (a0 : Option Nat) (Ma : Mem) (w : Unit × Mem), rF a0 Ma = some w → K3 Ma w.2) {v0 : Option Nat} (h : J_X11_atom_165 rF v0 M = some z) : K3 M z.2 := by
  unfold J_X11_atom_165 at h
  have hg : K3 M M := K3.rf
  obtain ⟨_, -, h⟩ := bnd h
  obtain ⟨w4, hw, h⟩ := bnd h
  have hg := hg.trans (kx_X11_takes hw)
  rcases itor h with h | h
  · obtain ⟨_, -, h⟩ := bnd h
    obtain ⟨w5, hw, h⟩ := bnd h
    have hg := hg.trans (kx_X11_stops hw)
    cases h; exact hg
  · obtain ⟨_, -, h⟩ := bnd h
    obtain ⟨w6, hw, h⟩ := bnd h
    have hg := hg.trans (hrK _ _ _ hw)
    obtain ⟨_, -, h⟩ := bnd h
    obtain ⟨w7, hw, h⟩ := bnd h
    have hg := hg.trans (kx_X11_must hw)
    cases h; exact hg
theorem kx_X11_atom {M : Mem} {z : Unit × Mem} {rF : Option Nat → Mem → Option (Unit × Mem)} (hrK : ∀ (a0 : Option Nat) (Ma : Mem) (w : Unit × Mem), rF a0 Ma = some w → K3 Ma w.2) {v0 : Option Nat} (h : L_X11_atom rF v0 M = some z) : K3 M z.2 := by
  unfold L_X11_atom at h
  have hg : K3 M M := K3.rf
  obtain ⟨_, -, h⟩ := bnd h
  rcases itor h with h | h
  · obtain ⟨_, -, h⟩ := bnd h
    obtain ⟨_, -, h⟩ := bnd h
    rcases itor h with h | h
    · obtain ⟨_, -, h⟩ := bnd h
      rcases itor h with h | h
      · obtain ⟨_, -, h⟩ := bnd h
        rcases itor h with h | h
        · exact hg.trans (kxJ_X11_atom_165 hrK h)
        · obtain ⟨_, -, h⟩ := bnd h
          rcases itor h with h | h
          · exact hg.trans (kxJ_X11_atom_165 hrK h)
          · obtain ⟨_, -, h⟩ := bnd h
            rcases itor h with h | h
            · exact hg.trans (kxJ_X11_atom_165 hrK h)
            · obtain ⟨_, -, h⟩ := bnd h
              rcases itor h with h | h
              · obtain ⟨_, -, h⟩ := bnd h
                rcases itor h with h | h
                · exact hg.trans (kxJ_X11_atom_143 hrK h)
                · exact hg.trans (kxJ_X11_atom_136 hrK h)
              · obtain ⟨_, -, h⟩ := bnd h
                rcases itor h with h | h
                · exact hg.trans (kxJ_X11_atom_143 hrK h)
                · exact hg.trans (kxJ_X11_atom_136 hrK h)
      · obtain ⟨_, -, h⟩ := bnd h
        obtain ⟨w8, hw, h⟩ := bnd h
        have hg := hg.trans (kx_X11_takesNumber hw)
        obtain ⟨_, -, h⟩ := bnd h
        obtain ⟨w9, hw, h⟩ := bnd h
        have hg := hg.trans (kx_X11_takes hw)
        rcases itor h with h | h
        · obtain ⟨_, -, h⟩ := bnd h
          obtain ⟨w10, hw, h⟩ := bnd h
          have hg := hg.trans (kx_X11_emit hw)
          cases h; exact hg
        · obtain ⟨_, -, h⟩ := bnd h
          obtain ⟨w11, hw, h⟩ := bnd h
          have hg := hg.trans (kx_X11_yearOf hw)
          obtain ⟨_, -, h⟩ := bnd h
          obtain ⟨w12, hw, h⟩ := bnd h
          have hg := hg.trans (kx_X11_takesName hw)
          obtain ⟨_, -, h⟩ := bnd h
          obtain ⟨w13, hw, h⟩ := bnd h
          have hg := hg.trans (kx_X11_called hrK hw)
          cases h; exact hg
    · obtain ⟨_, -, h⟩ := bnd h
      obtain ⟨w14, hw, h⟩ := bnd h
      have hg := hg.trans (kx_X11_takesName hw)
      obtain ⟨_, -, h⟩ := bnd h
      obtain ⟨w15, hw, h⟩ := bnd h
      have hg := hg.trans (kx_X11_called hrK hw)
      cases h; exact hg
  · cases h; exact hg
theorem kx_X11_signed {M : Mem} {z : Unit × Mem} {rF : Option Nat → Mem → Option (Unit × Mem)} (hrK : ∀ (a0 : Option Nat) (Ma : Mem) (w : Unit × Mem), rF a0 Ma = some w → K3 Ma w.2) {v0 : Option Nat} (h : L_X11_signed rF v0 M = some z) : K3 M z.2 := by
  unfold L_X11_signed at h
  have hg : K3 M M := K3.rf
  obtain ⟨_, -, h⟩ := bnd h
  obtain ⟨w1, hw, h⟩ := bnd h
  have hg := hg.trans (kx_X11_takes hw)
  obtain ⟨_, -, h⟩ := bnd h
  obtain ⟨w2, hw, h⟩ := bnd h
  have hg := hg.trans (kx_X11_atom hrK hw)
  rcases itor h with h | h
  · cases h; exact hg
  · obtain ⟨_, -, h⟩ := bnd h
    obtain ⟨w3, hw, h⟩ := bnd h
    have hg := hg.trans (kx_X11_emit hw)
    cases h; exact hg
theorem kxJ_X11_product_38 {M : Mem} {z : Unit × Mem} {rF : Option Nat → Mem → Option (Unit × Mem)} (hrK : ∀ (a0 : Option Nat) (Ma : Mem) (w : Unit × Mem), rF a0 Ma = some w → K3 Ma w.2) {k_4 : Option Nat → Mem → Option (Unit × Mem)} (hk_4 : ∀ (v0 : Option Nat) (Ma : Mem), k_4 v0 Ma = some z → K3 Ma z.2) {v0 : Option Nat} (h : J_X11_product_38 rF k_4 v0 M = some z) : K3 M z.2 := by
  unfold J_X11_product_38 at h
  have hg : K3 M M := K3.rf
  obtain ⟨_, -, h⟩ := bnd h
  obtain ⟨_, -, h⟩ := bnd h
  obtain ⟨_, -, h⟩ := bnd h
  obtain ⟨_, -, h⟩ := bnd h
  obtain ⟨w1, hw, h⟩ := bnd h
  have hg := hg.trans (kx_X11_advance hw)
  obtain ⟨_, -, h⟩ := bnd h
  obtain ⟨w2, hw, h⟩ := bnd h
  have hg := hg.trans (kx_X11_signed hrK hw)
  obtain ⟨_, -, h⟩ := bnd h
  obtain ⟨w3, hw, h⟩ := bnd h
  have hg := hg.trans (kx_X11_emit hw)
  exact hg.trans (hk_4 _ _ h)
theorem kxJ_X11_product_4 {z : Unit × Mem} {rF : Option Nat → Mem → Option (Unit × Mem)} (hrK : ∀ (a0 : Option Nat) (Ma : Mem) (w : Unit × Mem), rF a0 Ma = some w → K3 Ma w.2) : ∀ (n : Nat) (v0 : Option Nat) (M : Mem), J_X11_product_4 rF n v0 M = some z → K3 M z.2 := by
  intro n
  induction n with
  | zero => intro v0 M h; exact nomatch h
  | succ n ih =>
    intro v0 M h
    unfold J_X11_product_4 at h
    have hg : K3 M M := K3.rf
    obtain ⟨_, -, h⟩ := bnd h
    rcases itor h with h | h
    · cases h; exact hg
    · obtain ⟨_, -, h⟩ := bnd h
      obtain ⟨w4, hw, h⟩ := bnd h
      have hg := hg.trans (kx_X11_isSign hw)
      rcases itor h with h | h
      · exact hg.trans (kxJ_X11_product_38 hrK ih h)
      · obtain ⟨_, -, h⟩ := bnd h
        obtain ⟨w5, hw, h⟩ := bnd h
        have hg := hg.trans (kx_X11_isSign hw)
        rcases itor h with h | h
        · exact hg.trans (kxJ_X11_product_38 hrK ih h)
        · obtain ⟨_, -, h⟩ := bnd h
          obtain ⟨w6, hw, h⟩ := bnd h
          have hg := hg.trans (kx_X11_isSign hw)
          rcases itor h with h | h
          · cases h; exact hg
          · exact hg.trans (kxJ_X11_product_38 hrK ih h)
theorem kx_X11_product {M : Mem} {z : Unit × Mem} {rF : Option Nat → Mem → Option (Unit × Mem)} (hrK : ∀ (a0 : Option Nat) (Ma : Mem) (w : Unit × Mem), rF a0 Ma = some w → K3 Ma w.2) {v0 : Option Nat} (h : L_X11_product rF v0 M = some z) : K3 M z.2 := by
  unfold L_X11_product at h
  have hg : K3 M M := K3.rf
  obtain ⟨_, -, h⟩ := bnd h
  obtain ⟨w7, hw, h⟩ := bnd h
  have hg := hg.trans (kx_X11_signed hrK hw)
  exact hg.trans (kxJ_X11_product_4 hrK FU _ _ h)
theorem kxJ_X11_sum_29 {M : Mem} {z : Unit × Mem} {rF : Option Nat → Mem → Option (Unit × Mem)} (hrK : ∀ (a0 : Option Nat) (Ma : Mem) (w : Unit × Mem), rF a0 Ma = some w → K3 Ma w.2) {k_4 : Option Nat → Mem → Option (Unit × Mem)} (hk_4 : ∀ (v0 : Option Nat) (Ma : Mem), k_4 v0 Ma = some z → K3 Ma z.2) {v0 : Option Nat} (h : J_X11_sum_29 rF k_4 v0 M = some z) : K3 M z.2 := by
  unfold J_X11_sum_29 at h
  have hg : K3 M M := K3.rf
  obtain ⟨_, -, h⟩ := bnd h
  obtain ⟨_, -, h⟩ := bnd h
  obtain ⟨_, -, h⟩ := bnd h
  obtain ⟨_, -, h⟩ := bnd h
  obtain ⟨w1, hw, h⟩ := bnd h
  have hg := hg.trans (kx_X11_advance hw)
  obtain ⟨_, -, h⟩ := bnd h
  obtain ⟨w2, hw, h⟩ := bnd h
  have hg := hg.trans (kx_X11_product hrK hw)
  obtain ⟨_, -, h⟩ := bnd h
  obtain ⟨w3, hw, h⟩ := bnd h
  have hg := hg.trans (kx_X11_emit hw)
  exact hg.trans (hk_4 _ _ h)
theorem kxJ_X11_sum_4 {z : Unit × Mem} {rF : Option Nat → Mem → Option (Unit × Mem)} (hrK : ∀ (a0 : Option Nat) (Ma : Mem) (w : Unit × Mem), rF a0 Ma = some w → K3 Ma w.2) : ∀ (n : Nat) (v0 : Option Nat) (M : Mem), J_X11_sum_4 rF n v0 M = some z → K3 M z.2 := by
  intro n
  induction n with
  | zero => intro v0 M h; exact nomatch h
  | succ n ih =>
    intro v0 M h
    unfold J_X11_sum_4 at h
    have hg : K3 M M := K3.rf
    obtain ⟨_, -, h⟩ := bnd h
    rcases itor h with h | h
    · cases h; exact hg
    · obtain ⟨_, -, h⟩ := bnd h
      obtain ⟨w4, hw, h⟩ := bnd h
      have hg := hg.trans (kx_X11_isSign hw)
      rcases itor h with h | h
      · exact hg.trans (kxJ_X11_sum_29 hrK ih h)
      · obtain ⟨_, -, h⟩ := bnd h
        obtain ⟨w5, hw, h⟩ := bnd h
        have hg := hg.trans (kx_X11_isSign hw)
        rcases itor h with h | h
        · cases h; exact hg
        · exact hg.trans (kxJ_X11_sum_29 hrK ih h)
theorem kx_X11_sum {M : Mem} {z : Unit × Mem} {rF : Option Nat → Mem → Option (Unit × Mem)} (hrK : ∀ (a0 : Option Nat) (Ma : Mem) (w : Unit × Mem), rF a0 Ma = some w → K3 Ma w.2) {v0 : Option Nat} (h : L_X11_sum rF v0 M = some z) : K3 M z.2 := by
  unfold L_X11_sum at h
  have hg : K3 M M := K3.rf
  obtain ⟨_, -, h⟩ := bnd h
  obtain ⟨w6, hw, h⟩ := bnd h
  have hg := hg.trans (kx_X11_product hrK hw)
  exact hg.trans (kxJ_X11_sum_4 hrK FU _ _ h)
theorem kxJ_X11_compared_39 {M : Mem} {z : Unit × Mem} {rF : Option Nat → Mem → Option (Unit × Mem)} (hrK : ∀ (a0 : Option Nat) (Ma : Mem) (w : Unit × Mem), rF a0 Ma = some w → K3 Ma w.2) {v0 : Option Nat} (h : J_X11_compared_39 rF v0 M = some z) : K3 M z.2 := by
  unfold J_X11_compared_39 at h
  have hg : K3 M M := K3.rf
  obtain ⟨_, -, h⟩ := bnd h
  obtain ⟨_, -, h⟩ := bnd h
  obtain ⟨_, -, h⟩ := bnd h
  obtain ⟨_, -, h⟩ := bnd h
  obtain ⟨w1, hw, h⟩ := bnd h
  have hg := hg.trans (kx_X11_advance hw)
  obtain ⟨_, -, h⟩ := bnd h
  obtain ⟨w2, hw, h⟩ := bnd h
  have hg := hg.trans (kx_X11_sum hrK hw)
  obtain ⟨_, -, h⟩ := bnd h
  obtain ⟨w3, hw, h⟩ := bnd h
  have hg := hg.trans (kx_X11_emit hw)
  cases h; exact hg
theorem kx_X11_compared {M : Mem} {z : Unit × Mem} {rF : Option Nat → Mem → Option (Unit × Mem)} (hrK : ∀ (a0 : Option Nat) (Ma : Mem) (w : Unit × Mem), rF a0 Ma = some w → K3 Ma w.2) {v0 : Option Nat} (h : L_X11_compared rF v0 M = some z) : K3 M z.2 := by
  unfold L_X11_compared at h
  have hg : K3 M M := K3.rf
  obtain ⟨_, -, h⟩ := bnd h
  obtain ⟨w4, hw, h⟩ := bnd h
  have hg := hg.trans (kx_X11_sum hrK hw)
  obtain ⟨_, -, h⟩ := bnd h
  rcases itor h with h | h
  · cases h; exact hg
  · obtain ⟨_, -, h⟩ := bnd h
    obtain ⟨w5, hw, h⟩ := bnd h
    have hg := hg.trans (kx_X11_isSign hw)
    rcases itor h with h | h
    · exact hg.trans (kxJ_X11_compared_39 hrK h)
    · obtain ⟨_, -, h⟩ := bnd h
      obtain ⟨w6, hw, h⟩ := bnd h
      have hg := hg.trans (kx_X11_isSign hw)
      rcases itor h with h | h
      · exact hg.trans (kxJ_X11_compared_39 hrK h)
      · obtain ⟨_, -, h⟩ := bnd h
        obtain ⟨w7, hw, h⟩ := bnd h
        have hg := hg.trans (kx_X11_isSign hw)
        rcases itor h with h | h
        · exact hg.trans (kxJ_X11_compared_39 hrK h)
        · cases h; exact hg
theorem kxJ_X11_formula_107 {M : Mem} {z : Unit × Mem} {rF : Option Nat → Mem → Option (Unit × Mem)} (hrK : ∀ (a0 : Option Nat) (Ma : Mem) (w : Unit × Mem), rF a0 Ma = some w → K3 Ma w.2) {v0 : Option Nat} (h : J_X11_formula_107 rF v0 M = some z) : K3 M z.2 := by
  unfold J_X11_formula_107 at h
  have hg : K3 M M := K3.rf
  obtain ⟨_, -, h⟩ := bnd h
  obtain ⟨_, hw, h⟩ := bnd h
  have hg := hg.trans (k3_pI (by decide) hw)
  cases h; exact hg
theorem kxB_X11_formula {M : Mem} {z : Unit × Mem} {rF : Option Nat → Mem → Option (Unit × Mem)} (hrK : ∀ (a0 : Option Nat) (Ma : Mem) (w : Unit × Mem), rF a0 Ma = some w → K3 Ma w.2) {v0 : Option Nat} (h : B_X11_formula rF v0 M = some z) : K3 M z.2 := by
  unfold B_X11_formula at h
  have hg : K3 M M := K3.rf
  obtain ⟨_, -, h⟩ := bnd h
  rcases itor h with h | h
  · obtain ⟨_, -, h⟩ := bnd h
    rcases itor h with h | h
    · obtain ⟨_, -, h⟩ := bnd h
      obtain ⟨_, hw, h⟩ := bnd h
      have hg := hg.trans (k3_pI (by decide) hw)
      obtain ⟨_, -, h⟩ := bnd h
      obtain ⟨w1, hw, h⟩ := bnd h
      have hg := hg.trans (kx_X11_compared hrK hw)
      obtain ⟨_, -, h⟩ := bnd h
      obtain ⟨w2, hw, h⟩ := bnd h
      have hg := hg.trans (kx_X11_takes hw)
      rcases itor h with h | h
      · exact hg.trans (kxJ_X11_formula_107 hrK h)
      · obtain ⟨_, -, h⟩ := bnd h
        obtain ⟨_, -, h⟩ := bnd h
        obtain ⟨w3, hw, h⟩ := bnd h
        have hg := hg.trans (kx_X11_emit hw)
        obtain ⟨_, -, h⟩ := bnd h
        obtain ⟨w4, hw, h⟩ := bnd h
        have hg := hg.trans (hrK _ _ _ hw)
        obtain ⟨_, -, h⟩ := bnd h
        obtain ⟨w5, hw, h⟩ := bnd h
        have hg := hg.trans (kx_X11_must hw)
        obtain ⟨_, -, h⟩ := bnd h
        obtain ⟨_, -, h⟩ := bnd h
        obtain ⟨w6, hw, h⟩ := bnd h
        have hg := hg.trans (kx_X11_emit hw)
        obtain ⟨_, -, h⟩ := bnd h
        obtain ⟨_, -, h⟩ := bnd h
        obtain ⟨_, hw, h⟩ := bnd h
        have hg := hg.trans (k3_uL hw)
        obtain ⟨_, -, h⟩ := bnd h
        obtain ⟨w7, hw, h⟩ := bnd h
        have hg := hg.trans (hrK _ _ _ hw)
        obtain ⟨_, -, h⟩ := bnd h
        obtain ⟨_, -, h⟩ := bnd h
        obtain ⟨_, hw, h⟩ := bnd h
        have hg := hg.trans (k3_uL hw)
        exact hg.trans (kxJ_X11_formula_107 hrK h)
    · obtain ⟨_, -, h⟩ := bnd h
      obtain ⟨w8, hw, h⟩ := bnd h
      have hg := hg.trans (kx_X11_stops hw)
      cases h; exact hg
  · cases h; exact hg
theorem kx_X11_formula : ∀ (n : Nat) {M : Mem} {z : Unit × Mem} {v0 : Option Nat} (h : L_X11_formula n v0 M = some z), K3 M z.2
  | 0 => fun h => nomatch h
  | n + 1 => fun h => kxB_X11_formula (rF := L_X11_formula n) (fun _ _ _ h => kx_X11_formula n h) h
theorem kx_X11_whole {M : Mem} {z : Unit × Mem} {v0 : Option Nat} (h : L_X11_whole v0 M = some z) : K3 M z.2 := by
  unfold L_X11_whole at h
  have hg : K3 M M := K3.rf
  obtain ⟨_, hw, h⟩ := bnd h
  have hg := hg.trans (k3_pI (by decide) hw)
  obtain ⟨_, -, h⟩ := bnd h
  obtain ⟨w1, hw, h⟩ := bnd h
  have hg := hg.trans (kx_X11_formula 14 hw)
  obtain ⟨_, -, h⟩ := bnd h
  obtain ⟨w2, hw, h⟩ := bnd h
  have hg := hg.trans (kx_X11_emit hw)
  cases h; exact hg
theorem kx_X11_mark {M : Mem} {z : Unit × Mem} {v0 : Option Nat} {v1 : Int32} {v2 : Int32} {v3 : Int32} (h : L_X11_mark v0 v1 v2 v3 M = some z) : K3 M z.2 := by
  unfold L_X11_mark at h
  have hg : K3 M M := K3.rf
  obtain ⟨_, -, h⟩ := bnd h
  obtain ⟨_, -, h⟩ := bnd h
  obtain ⟨_, hw, h⟩ := bnd h
  have hg := hg.trans (k3_uI (by decide) hw)
  obtain ⟨_, -, h⟩ := bnd h
  obtain ⟨_, -, h⟩ := bnd h
  obtain ⟨_, hw, h⟩ := bnd h
  have hg := hg.trans (k3_uI (by decide) hw)
  obtain ⟨_, -, h⟩ := bnd h
  obtain ⟨_, -, h⟩ := bnd h
  obtain ⟨_, hw, h⟩ := bnd h
  have hg := hg.trans (k3_uI (by decide) hw)
  obtain ⟨_, -, h⟩ := bnd h
  obtain ⟨_, hw, h⟩ := bnd h
  have hg := hg.trans (k3_pI (by decide) hw)
  cases h; exact hg
theorem kxJ_X11_isTaken_42 {M : Mem} {z : Int32 × Mem} {k_5 : Option Nat → Int64 → Int32 → Int32 → Mem → Option (Int32 × Mem)} (hk_5 : ∀ (v0 : Option Nat) (v1 : Int64) (v3 : Int32) (v4 : Int32) (Ma : Mem), k_5 v0 v1 v3 v4 Ma = some z → K3 Ma z.2) {v0 : Option Nat} {v1 : Int64} {v4 : Int32} {s0 : Int32} (h : J_X11_isTaken_42 k_5 v0 v1 v4 s0 M = some z) : K3 M z.2 := by
  unfold J_X11_isTaken_42 at h
  have hg : K3 M M := K3.rf
  exact hg.trans (hk_5 _ _ _ _ _ h)
theorem kxJ_X11_isTaken_37 {M : Mem} {z : Int32 × Mem} {k_5 : Option Nat → Int64 → Int32 → Int32 → Mem → Option (Int32 × Mem)} (hk_5 : ∀ (v0 : Option Nat) (v1 : Int64) (v3 : Int32) (v4 : Int32) (Ma : Mem), k_5 v0 v1 v3 v4 Ma = some z → K3 Ma z.2) {v0 : Option Nat} {v1 : Int64} {v4 : Int32} (h : J_X11_isTaken_37 k_5 v0 v1 v4 M = some z) : K3 M z.2 := by
  unfold J_X11_isTaken_37 at h
  have hg : K3 M M := K3.rf
  exact hg.trans (kxJ_X11_isTaken_42 hk_5 h)
theorem kxJ_X11_isTaken_89 {M : Mem} {z : Int32 × Mem} {k_52 : Option Nat → Int64 → Int32 → Int32 → Mem → Option (Int32 × Mem)} (hk_52 : ∀ (v0 : Option Nat) (v1 : Int64) (v3 : Int32) (v4 : Int32) (Ma : Mem), k_52 v0 v1 v3 v4 Ma = some z → K3 Ma z.2) {v0 : Option Nat} {v1 : Int64} {v4 : Int32} {s0 : Int32} (h : J_X11_isTaken_89 k_52 v0 v1 v4 s0 M = some z) : K3 M z.2 := by
  unfold J_X11_isTaken_89 at h
  have hg : K3 M M := K3.rf
  exact hg.trans (hk_52 _ _ _ _ _ h)
theorem kxJ_X11_isTaken_84 {M : Mem} {z : Int32 × Mem} {k_52 : Option Nat → Int64 → Int32 → Int32 → Mem → Option (Int32 × Mem)} (hk_52 : ∀ (v0 : Option Nat) (v1 : Int64) (v3 : Int32) (v4 : Int32) (Ma : Mem), k_52 v0 v1 v3 v4 Ma = some z → K3 Ma z.2) {v0 : Option Nat} {v1 : Int64} {v4 : Int32} (h : J_X11_isTaken_84 k_52 v0 v1 v4 M = some z) : K3 M z.2 := by
  unfold J_X11_isTaken_84 at h
  have hg : K3 M M := K3.rf
  exact hg.trans (kxJ_X11_isTaken_89 hk_52 h)
theorem kxJ_X11_isTaken_52 {z : Int32 × Mem} : ∀ (n : Nat) (v0 : Option Nat) (v1 : Int64) (v3 : Int32) (v4 : Int32) (M : Mem), J_X11_isTaken_52 n v0 v1 v3 v4 M = some z → K3 M z.2 := by
  intro n
  induction n with
  | zero => intro v0 v1 v3 v4 M h; exact nomatch h
  | succ n ih =>
    intro v0 v1 v3 v4 M h
    unfold J_X11_isTaken_52 at h
    have hg : K3 M M := K3.rf
    obtain ⟨_, -, h⟩ := bnd h
    rcases itor h with h | h
    · obtain ⟨_, -, h⟩ := bnd h
      cases h; exact hg
    · rcases itor h with h | h
      · obtain ⟨_, -, h⟩ := bnd h
        cases h; exact hg
      · rcases itor h with h | h
        · exact hg.trans (kxJ_X11_isTaken_84 ih h)
        · obtain ⟨_, -, h⟩ := bnd h
          obtain ⟨_, -, h⟩ := bnd h
          rcases itor h with h | h
          · exact hg.trans (kxJ_X11_isTaken_89 ih h)
          · exact hg.trans (kxJ_X11_isTaken_84 ih h)
theorem kxJ_X11_isTaken_49 {M : Mem} {z : Int32 × Mem} {v0 : Option Nat} {v1 : Int64} {v3 : Int32} (h : J_X11_isTaken_49 v0 v1 v3 M = some z) : K3 M z.2 := by
  unfold J_X11_isTaken_49 at h
  have hg : K3 M M := K3.rf
  exact hg.trans (kxJ_X11_isTaken_52 FU _ _ _ _ _ h)
theorem kxJ_X11_isTaken_5 {z : Int32 × Mem} : ∀ (n : Nat) (v0 : Option Nat) (v1 : Int64) (v3 : Int32) (v4 : Int32) (M : Mem), J_X11_isTaken_5 n v0 v1 v3 v4 M = some z → K3 M z.2 := by
  intro n
  induction n with
  | zero => intro v0 v1 v3 v4 M h; exact nomatch h
  | succ n ih =>
    intro v0 v1 v3 v4 M h
    unfold J_X11_isTaken_5 at h
    have hg : K3 M M := K3.rf
    obtain ⟨_, -, h⟩ := bnd h
    rcases itor h with h | h
    · exact hg.trans (kxJ_X11_isTaken_49 h)
    · rcases itor h with h | h
      · exact hg.trans (kxJ_X11_isTaken_49 h)
      · rcases itor h with h | h
        · exact hg.trans (kxJ_X11_isTaken_37 ih h)
        · obtain ⟨_, -, h⟩ := bnd h
          obtain ⟨_, -, h⟩ := bnd h
          rcases itor h with h | h
          · exact hg.trans (kxJ_X11_isTaken_42 ih h)
          · exact hg.trans (kxJ_X11_isTaken_37 ih h)
theorem kx_X11_isTaken {M : Mem} {z : Int32 × Mem} {v0 : Option Nat} {v1 : Int64} (h : L_X11_isTaken v0 v1 M = some z) : K3 M z.2 := by
  unfold L_X11_isTaken at h
  have hg : K3 M M := K3.rf
  exact hg.trans (kxJ_X11_isTaken_5 FU _ _ _ _ _ h)
theorem kyJ_X11_table_154 {M : Mem} {z : Unit × Mem} {v0 : Option Nat} {v5 : Int32} (h : J_X11_table_154 v0 v5 M = some z) : K4 M z.2 := by
  unfold J_X11_table_154 at h
  have hg : K4 M M := K4.rf
  obtain ⟨_, -, h⟩ := bnd h
  obtain ⟨_, -, h⟩ := bnd h
  obtain ⟨w1, hw, h⟩ := bnd h
  have hg := hg.trans (kx_X11_mark hw).to4
  obtain ⟨_, -, h⟩ := bnd h
  obtain ⟨_, hw, h⟩ := bnd h
  have hg := hg.trans (k3_pI (by decide) hw).to4
  cases h; exact hg
theorem kyJ_X11_table_92 {M : Mem} {z : Unit × Mem} {v0 : Option Nat} {v2 : Int64} {v4 : Int32} (h : J_X11_table_92 v0 v2 v4 M = some z) : K4 M z.2 := by
  unfold J_X11_table_92 at h
  have hg : K4 M M := K4.rf
  obtain ⟨_, -, h⟩ := bnd h
  obtain ⟨w2, hw, h⟩ := bnd h
  have hg := hg.trans (kx_X11_must hw).to4
  obtain ⟨_, -, h⟩ := bnd h
  obtain ⟨_, hw1, h⟩ := bnd h
  obtain ⟨_, -, h⟩ := bnd h
  obtain ⟨w3, hw2, h⟩ := bnd h
  obtain ⟨_, hw3, h⟩ := bnd h
  have hg := hg.trans (k4_br (by decide) hw1 (kx_X11_whole hw2) hw3)
  obtain ⟨_, -, h⟩ := bnd h
  obtain ⟨w4, hw, h⟩ := bnd h
  have hg := hg.trans (kx_X11_must hw).to4
  obtain ⟨_, -, h⟩ := bnd h
  rcases itor h with h | h
  · exact hg.trans (kyJ_X11_table_154 h)
  · obtain ⟨_, -, h⟩ := bnd h
    obtain ⟨_, -, h⟩ := bnd h
    obtain ⟨_, hw, h⟩ := bnd h
    have hg := hg.trans (k3_uL hw).to4
    obtain ⟨_, -, h⟩ := bnd h
    obtain ⟨_, -, h⟩ := bnd h
    obtain ⟨_, hw, h⟩ := bnd h
    have hg := hg.trans (k3_uI (by decide) hw).to4
    exact hg.trans (kyJ_X11_table_154 h)
theorem kyJ_X11_table_86 {M : Mem} {z : Unit × Mem} {v0 : Option Nat} {v1 : Int32} {v2 : Int64} {v4 : Int32} (h : J_X11_table_86 v0 v1 v2 v4 M = some z) : K4 M z.2 := by
  unfold J_X11_table_86 at h
  have hg : K4 M M := K4.rf
  obtain ⟨_, -, h⟩ := bnd h
  obtain ⟨w5, hw, h⟩ := bnd h
  have hg := hg.trans (kx_X11_tells hw).to4
  exact hg.trans (kyJ_X11_table_92 h)
theorem kyJ_X11_table_54 {M : Mem} {z : Unit × Mem} {v0 : Option Nat} {v2 : Int64} (h : J_X11_table_54 v0 v2 M = some z) : K4 M z.2 := by
  unfold J_X11_table_54 at h
  have hg : K4 M M := K4.rf
  obtain ⟨_, -, h⟩ := bnd h
  obtain ⟨_, -, h⟩ := bnd h
  obtain ⟨w6, hw, h⟩ := bnd h
  have hg := hg.trans (kx_X11_takesNumber hw).to4
  obtain ⟨_, -, h⟩ := bnd h
  rcases itor h with h | h
  · rcases itor h with h | h
    · exact hg.trans (kyJ_X11_table_86 h)
    · rcases itor h with h | h
      · exact hg.trans (kyJ_X11_table_92 h)
      · exact hg.trans (kyJ_X11_table_86 h)
  · cases h; exact hg
theorem kyJ_X11_table_18 {M : Mem} {z : Unit × Mem} {v0 : Option Nat} (h : J_X11_table_18 v0 M = some z) : K4 M z.2 := by
  unfold J_X11_table_18 at h
  have hg : K4 M M := K4.rf
  obtain ⟨_, -, h⟩ := bnd h
  obtain ⟨w7, hw, h⟩ := bnd h
  have hg := hg.trans (kx_X11_advance hw).to4
  obtain ⟨_, -, h⟩ := bnd h
  obtain ⟨_, -, h⟩ := bnd h
  obtain ⟨w8, hw, h⟩ := bnd h
  have hg := hg.trans (kx_X11_takesName hw).to4
  obtain ⟨_, -, h⟩ := bnd h
  rcases itor h with h | h
  · obtain ⟨_, -, h⟩ := bnd h
    obtain ⟨w9, hw, h⟩ := bnd h
    have hg := hg.trans (kx_X11_isTaken hw).to4
    rcases itor h with h | h
    · exact hg.trans (kyJ_X11_table_54 h)
    · obtain ⟨_, -, h⟩ := bnd h
      obtain ⟨w10, hw, h⟩ := bnd h
      have hg := hg.trans (kx_X11_tells hw).to4
      exact hg.trans (kyJ_X11_table_54 h)
  · cases h; exact hg
theorem ky_X11_table {M : Mem} {z : Unit × Mem} {v0 : Option Nat} (h : L_X11_table v0 M = some z) : K4 M z.2 := by
  unfold L_X11_table at h
  have hg : K4 M M := K4.rf
  obtain ⟨_, -, h⟩ := bnd h
  rcases itor h with h | h
  · exact hg.trans (kyJ_X11_table_18 h)
  · obtain ⟨_, -, h⟩ := bnd h
    obtain ⟨_, -, h⟩ := bnd h
    obtain ⟨w11, hw, h⟩ := bnd h
    have hg := hg.trans (kx_X11_tells hw).to4
    exact hg.trans (kyJ_X11_table_18 h)
theorem kxJ_X11_check_55 {M : Mem} {z : Unit × Mem} {v0 : Option Nat} {v1 : Int32} {v3 : Int32} (h : J_X11_check_55 v0 v1 v3 M = some z) : K3 M z.2 := by
  unfold J_X11_check_55 at h
  have hg : K3 M M := K3.rf
  obtain ⟨_, -, h⟩ := bnd h
  obtain ⟨w1, hw, h⟩ := bnd h
  have hg := hg.trans (kx_X11_must hw)
  obtain ⟨_, -, h⟩ := bnd h
  obtain ⟨w2, hw, h⟩ := bnd h
  have hg := hg.trans (kx_X11_mark hw)
  cases h; exact hg
theorem kxJ_X11_check_49 {M : Mem} {z : Unit × Mem} {v0 : Option Nat} {v1 : Int32} {v2 : Int32} {v3 : Int32} (h : J_X11_check_49 v0 v1 v2 v3 M = some z) : K3 M z.2 := by
  unfold J_X11_check_49 at h
  have hg : K3 M M := K3.rf
  obtain ⟨_, -, h⟩ := bnd h
  obtain ⟨w3, hw, h⟩ := bnd h
  have hg := hg.trans (kx_X11_tells hw)
  exact hg.trans (kxJ_X11_check_55 h)
theorem kx_X11_check {M : Mem} {z : Unit × Mem} {v0 : Option Nat} (h : L_X11_check v0 M = some z) : K3 M z.2 := by
  unfold L_X11_check at h
  have hg : K3 M M := K3.rf
  obtain ⟨_, -, h⟩ := bnd h
  obtain ⟨w4, hw, h⟩ := bnd h
  have hg := hg.trans (kx_X11_advance hw)
  obtain ⟨_, -, h⟩ := bnd h
  obtain ⟨_, -, h⟩ := bnd h
  obtain ⟨w5, hw, h⟩ := bnd h
  have hg := hg.trans (kx_X11_whole hw)
  obtain ⟨_, -, h⟩ := bnd h
  obtain ⟨w6, hw, h⟩ := bnd h
  have hg := hg.trans (kx_X11_must hw)
  obtain ⟨_, -, h⟩ := bnd h
  obtain ⟨_, -, h⟩ := bnd h
  obtain ⟨w7, hw, h⟩ := bnd h
  have hg := hg.trans (kx_X11_takesNumber hw)
  obtain ⟨_, -, h⟩ := bnd h
  rcases itor h with h | h
  · rcases itor h with h | h
    · exact hg.trans (kxJ_X11_check_49 h)
    · rcases itor h with h | h
      · exact hg.trans (kxJ_X11_check_55 h)
      · exact hg.trans (kxJ_X11_check_49 h)
  · cases h; exact hg
theorem kyJ_X11_block_47 {M : Mem} {z : Unit × Mem} {rF : Option Nat → Mem → Option (Unit × Mem)} (hrK : ∀ (a0 : Option Nat) (Ma : Mem) (w : Unit × Mem), rF a0 Ma = some w → K4 Ma w.2) {k_6 : Option Nat → Mem → Option (Unit × Mem)} (hk_6 : ∀ (v0 : Option Nat) (Ma : Mem), k_6 v0 Ma = some z → K4 Ma z.2) {v0 : Option Nat} (h : J_X11_block_47 rF k_6 v0 M = some z) : K4 M z.2 := by
  unfold J_X11_block_47 at h
  have hg : K4 M M := K4.rf
  obtain ⟨_, -, h⟩ := bnd h
  obtain ⟨w1, hw, h⟩ := bnd h
  have hg := hg.trans (hrK _ _ _ hw)
  exact hg.trans (hk_6 _ _ h)
theorem kyJ_X11_block_61 {M : Mem} {z : Unit × Mem} {rF : Option Nat → Mem → Option (Unit × Mem)} (hrK : ∀ (a0 : Option Nat) (Ma : Mem) (w : Unit × Mem), rF a0 Ma = some w → K4 Ma w.2) {v0 : Option Nat} (h : J_X11_block_61 rF v0 M = some z) : K4 M z.2 := by
  unfold J_X11_block_61 at h
  have hg : K4 M M := K4.rf
  obtain ⟨_, -, h⟩ := bnd h
  obtain ⟨w2, hw, h⟩ := bnd h
  have hg := hg.trans (kx_X11_must hw).to4
  cases h; exact hg
theorem kyJ_X11_block_6 {z : Unit × Mem} {rF : Option Nat → Mem → Option (Unit × Mem)} (hrK : ∀ (a0 : Option Nat) (Ma : Mem) (w : Unit × Mem), rF a0 Ma = some w → K4 Ma w.2) : ∀ (n : Nat) (v0 : Option Nat) (M : Mem), J_X11_block_6 rF n v0 M = some z → K4 M z.2 := by
  intro n
  induction n with
  | zero => intro v0 M h; exact nomatch h
  | succ n ih =>
    intro v0 M h
    unfold J_X11_block_6 at h
    have hg : K4 M M := K4.rf
    obtain ⟨_, -, h⟩ := bnd h
    rcases itor h with h | h
    · exact hg.trans (kyJ_X11_block_61 hrK h)
    · obtain ⟨_, -, h⟩ := bnd h
      obtain ⟨w3, hw, h⟩ := bnd h
      have hg := hg.trans (kx_X11_isSign hw).to4
      rcases itor h with h | h
      · exact hg.trans (kyJ_X11_block_61 hrK h)
      · obtain ⟨_, -, h⟩ := bnd h
        obtain ⟨w4, hw, h⟩ := bnd h
        have hg := hg.trans (kx_X11_isWord hw).to4
        rcases itor h with h | h
        · exact hg.trans (kyJ_X11_block_47 hrK ih h)
        · obtain ⟨_, -, h⟩ := bnd h
          obtain ⟨w5, hw, h⟩ := bnd h
          have hg := hg.trans (kx_X11_isWord hw).to4
          rcases itor h with h | h
          · exact hg.trans (kyJ_X11_block_47 hrK ih h)
          · obtain ⟨_, -, h⟩ := bnd h
            obtain ⟨w6, hw, h⟩ := bnd h
            have hg := hg.trans (kx_X11_isWord hw).to4
            rcases itor h with h | h
            · obtain ⟨_, -, h⟩ := bnd h
              obtain ⟨w7, hw, h⟩ := bnd h
              have hg := hg.trans (kx_X11_stops hw).to4
              exact hg.trans (ih _ _ h)
            · exact hg.trans (kyJ_X11_block_47 hrK ih h)
theorem ky_X11_block {M : Mem} {z : Unit × Mem} {rF : Option Nat → Mem → Option (Unit × Mem)} (hrK : ∀ (a0 : Option Nat) (Ma : Mem) (w : Unit × Mem), rF a0 Ma = some w → K4 Ma w.2) {v0 : Option Nat} (h : L_X11_block rF v0 M = some z) : K4 M z.2 := by
  unfold L_X11_block at h
  have hg : K4 M M := K4.rf
  obtain ⟨_, -, h⟩ := bnd h
  obtain ⟨w8, hw, h⟩ := bnd h
  have hg := hg.trans (kx_X11_must hw).to4
  exact hg.trans (kyJ_X11_block_6 hrK FU _ _ h)
theorem kyJ_X11_step_40 {M : Mem} {z : Unit × Mem} {rF : Option Nat → Mem → Option (Unit × Mem)} (hrK : ∀ (a0 : Option Nat) (Ma : Mem) (w : Unit × Mem), rF a0 Ma = some w → K4 Ma w.2) {v0 : Option Nat} (h : J_X11_step_40 rF v0 M = some z) : K4 M z.2 := by
  unfold J_X11_step_40 at h
  have hg : K4 M M := K4.rf
  obtain ⟨_, -, h⟩ := bnd h
  obtain ⟨_, hw, h⟩ := bnd h
  have hg := hg.trans (k3_pI (by decide) hw).to4
  obtain ⟨_, -, h⟩ := bnd h
  obtain ⟨w1, hw, h⟩ := bnd h
  have hg := hg.trans (kx_X11_isWord hw).to4
  rcases itor h with h | h
  · obtain ⟨_, -, h⟩ := bnd h
    obtain ⟨w2, hw, h⟩ := bnd h
    have hg := hg.trans (kx_X11_isWord hw).to4
    rcases itor h with h | h
    · obtain ⟨_, -, h⟩ := bnd h
      obtain ⟨_, hw, h⟩ := bnd h
      have hg := hg.trans (k3_pI (by decide) hw).to4
      obtain ⟨_, -, h⟩ := bnd h
      obtain ⟨w3, hw, h⟩ := bnd h
      have hg := hg.trans (kx_X11_advance hw).to4
      obtain ⟨_, -, h⟩ := bnd h
      obtain ⟨_, -, h⟩ := bnd h
      obtain ⟨w4, hw, h⟩ := bnd h
      have hg := hg.trans (kx_X11_mark hw).to4
      obtain ⟨_, -, h⟩ := bnd h
      obtain ⟨w5, hw, h⟩ := bnd h
      have hg := hg.trans (ky_X11_block hrK hw)
      obtain ⟨_, -, h⟩ := bnd h
      obtain ⟨w6, hw, h⟩ := bnd h
      have hg := hg.trans (kx_X11_isWord hw).to4
      rcases itor h with h | h
      · obtain ⟨_, -, h⟩ := bnd h
        obtain ⟨w7, hw, h⟩ := bnd h
        have hg := hg.trans (kx_X11_advance hw).to4
        obtain ⟨_, -, h⟩ := bnd h
        obtain ⟨_, -, h⟩ := bnd h
        obtain ⟨w8, hw, h⟩ := bnd h
        have hg := hg.trans (kx_X11_mark hw).to4
        obtain ⟨_, -, h⟩ := bnd h
        obtain ⟨w9, hw, h⟩ := bnd h
        have hg := hg.trans (ky_X11_block hrK hw)
        obtain ⟨_, -, h⟩ := bnd h
        obtain ⟨_, hw, h⟩ := bnd h
        have hg := hg.trans (k3_pI (by decide) hw).to4
        obtain ⟨_, -, h⟩ := bnd h
        obtain ⟨_, hw, h⟩ := bnd h
        have hg := hg.trans (k3_uI (by decide) hw).to4
        obtain ⟨_, -, h⟩ := bnd h
        obtain ⟨_, -, h⟩ := bnd h
        obtain ⟨_, hw, h⟩ := bnd h
        have hg := hg.trans (k3_uI (by decide) hw).to4
        obtain ⟨_, -, h⟩ := bnd h
        obtain ⟨w10, hw, h⟩ := bnd h
        have hg := hg.trans (kx_X11_mark hw).to4
        cases h; exact hg
      · obtain ⟨_, -, h⟩ := bnd h
        obtain ⟨w11, hw, h⟩ := bnd h
        have hg := hg.trans (kx_X11_stops hw).to4
        cases h; exact hg
    · obtain ⟨_, -, h⟩ := bnd h
      obtain ⟨w12, hw, h⟩ := bnd h
      have hg := hg.trans (kx_X11_check hw).to4
      cases h; exact hg
  · obtain ⟨_, -, h⟩ := bnd h
    obtain ⟨w13, hw, h⟩ := bnd h
    have hg := hg.trans (ky_X11_table hw)
    cases h; exact hg
theorem kyJ_X11_step_22 {M : Mem} {z : Unit × Mem} {rF : Option Nat → Mem → Option (Unit × Mem)} (hrK : ∀ (a0 : Option Nat) (Ma : Mem) (w : Unit × Mem), rF a0 Ma = some w → K4 Ma w.2) {v0 : Option Nat} (h : J_X11_step_22 rF v0 M = some z) : K4 M z.2 := by
  unfold J_X11_step_22 at h
  have hg : K4 M M := K4.rf
  obtain ⟨_, -, h⟩ := bnd h
  rcases itor h with h | h
  · exact hg.trans (kyJ_X11_step_40 hrK h)
  · obtain ⟨_, -, h⟩ := bnd h
    obtain ⟨_, -, h⟩ := bnd h
    obtain ⟨w14, hw, h⟩ := bnd h
    have hg := hg.trans (kx_X11_tells hw).to4
    exact hg.trans (kyJ_X11_step_40 hrK h)
theorem kyB_X11_step {M : Mem} {z : Unit × Mem} {rF : Option Nat → Mem → Option (Unit × Mem)} (hrK : ∀ (a0 : Option Nat) (Ma : Mem) (w : Unit × Mem), rF a0 Ma = some w → K4 Ma w.2) {v0 : Option Nat} (h : B_X11_step rF v0 M = some z) : K4 M z.2 := by
  unfold B_X11_step at h
  have hg : K4 M M := K4.rf
  obtain ⟨_, -, h⟩ := bnd h
  obtain ⟨w15, hw, h⟩ := bnd h
  have hg := hg.trans (kx_X11_isWord hw).to4
  rcases itor h with h | h
  · exact hg.trans (kyJ_X11_step_22 hrK h)
  · obtain ⟨_, -, h⟩ := bnd h
    rcases itor h with h | h
    · exact hg.trans (kyJ_X11_step_22 hrK h)
    · obtain ⟨_, -, h⟩ := bnd h
      obtain ⟨w16, hw, h⟩ := bnd h
      have hg := hg.trans (kx_X11_stops hw).to4
      cases h; exact hg
theorem ky_X11_step : ∀ (n : Nat) {M : Mem} {z : Unit × Mem} {v0 : Option Nat} (h : L_X11_step n v0 M = some z), K4 M z.2
  | 0 => fun h => nomatch h
  | n + 1 => fun h => kyB_X11_step (rF := L_X11_step n) (fun _ _ _ h => ky_X11_step n h) h
theorem kyJ_X11_aConst_106 {M : Mem} {z : Unit × Mem} {v0 : Option Nat} (h : J_X11_aConst_106 v0 M = some z) : K4 M z.2 := by
  unfold J_X11_aConst_106 at h
  have hg : K4 M M := K4.rf
  obtain ⟨_, -, h⟩ := bnd h
  obtain ⟨_, hw, h⟩ := bnd h
  have hg := hg.trans (k3_pI (by decide) hw).to4
  cases h; exact hg
theorem kyJ_X11_aConst_54 {M : Mem} {z : Unit × Mem} {v0 : Option Nat} {v2 : Int64} (h : J_X11_aConst_54 v0 v2 M = some z) : K4 M z.2 := by
  unfold J_X11_aConst_54 at h
  have hg : K4 M M := K4.rf
  obtain ⟨_, -, h⟩ := bnd h
  obtain ⟨w1, hw, h⟩ := bnd h
  have hg := hg.trans (kx_X11_must hw).to4
  obtain ⟨_, -, h⟩ := bnd h
  obtain ⟨_, -, h⟩ := bnd h
  obtain ⟨w2, hw, h⟩ := bnd h
  have hg := hg.trans (kx_X11_plainSum hw).to4
  obtain ⟨_, -, h⟩ := bnd h
  obtain ⟨w3, hw, h⟩ := bnd h
  have hg := hg.trans (kx_X11_must hw).to4
  obtain ⟨_, -, h⟩ := bnd h
  rcases itor h with h | h
  · exact hg.trans (kyJ_X11_aConst_106 h)
  · obtain ⟨_, -, h⟩ := bnd h
    obtain ⟨_, -, h⟩ := bnd h
    obtain ⟨_, hw, h⟩ := bnd h
    have hg := hg.trans (k3_uL hw).to4
    obtain ⟨_, -, h⟩ := bnd h
    obtain ⟨_, -, h⟩ := bnd h
    obtain ⟨_, hw, h⟩ := bnd h
    have hg := hg.trans (k3_uI (by decide) hw).to4
    exact hg.trans (kyJ_X11_aConst_106 h)
theorem kyJ_X11_aConst_18 {M : Mem} {z : Unit × Mem} {v0 : Option Nat} (h : J_X11_aConst_18 v0 M = some z) : K4 M z.2 := by
  unfold J_X11_aConst_18 at h
  have hg : K4 M M := K4.rf
  obtain ⟨_, -, h⟩ := bnd h
  obtain ⟨w4, hw, h⟩ := bnd h
  have hg := hg.trans (kx_X11_advance hw).to4
  obtain ⟨_, -, h⟩ := bnd h
  obtain ⟨_, -, h⟩ := bnd h
  obtain ⟨w5, hw, h⟩ := bnd h
  have hg := hg.trans (kx_X11_takesName hw).to4
  obtain ⟨_, -, h⟩ := bnd h
  rcases itor h with h | h
  · obtain ⟨_, -, h⟩ := bnd h
    obtain ⟨w6, hw, h⟩ := bnd h
    have hg := hg.trans (kx_X11_isTaken hw).to4
    rcases itor h with h | h
    · exact hg.trans (kyJ_X11_aConst_54 h)
    · obtain ⟨_, -, h⟩ := bnd h
      obtain ⟨w7, hw, h⟩ := bnd h
      have hg := hg.trans (kx_X11_tells hw).to4
      exact hg.trans (kyJ_X11_aConst_54 h)
  · cases h; exact hg
theorem ky_X11_aConst {M : Mem} {z : Unit × Mem} {v0 : Option Nat} (h : L_X11_aConst v0 M = some z) : K4 M z.2 := by
  unfold L_X11_aConst at h
  have hg : K4 M M := K4.rf
  obtain ⟨_, -, h⟩ := bnd h
  rcases itor h with h | h
  · exact hg.trans (kyJ_X11_aConst_18 h)
  · obtain ⟨_, -, h⟩ := bnd h
    obtain ⟨_, -, h⟩ := bnd h
    obtain ⟨w8, hw, h⟩ := bnd h
    have hg := hg.trans (kx_X11_tells hw).to4
    exact hg.trans (kyJ_X11_aConst_18 h)
theorem kyJ_X11_rule_16 {M : Mem} {z : Unit × Mem} {v0 : Option Nat} (h : J_X11_rule_16 v0 M = some z) : K4 M z.2 := by
  unfold J_X11_rule_16 at h
  have hg : K4 M M := K4.rf
  obtain ⟨_, -, h⟩ := bnd h
  obtain ⟨w1, hw, h⟩ := bnd h
  have hg := hg.trans (kx_X11_advance hw).to4
  obtain ⟨_, -, h⟩ := bnd h
  obtain ⟨_, hw1, h⟩ := bnd h
  obtain ⟨_, -, h⟩ := bnd h
  obtain ⟨w2, hw2, h⟩ := bnd h
  obtain ⟨_, hw3, h⟩ := bnd h
  have hg := hg.trans (k4_br (by decide) hw1 (kx_X11_whole hw2) hw3)
  obtain ⟨_, -, h⟩ := bnd h
  obtain ⟨w3, hw, h⟩ := bnd h
  have hg := hg.trans (kx_X11_must hw).to4
  obtain ⟨_, -, h⟩ := bnd h
  rcases itor h with h | h
  · cases h; exact hg
  · obtain ⟨_, hw, h⟩ := bnd h
    have hg := hg.trans (k3_pI (by decide) hw).to4
    cases h; exact hg
theorem ky_X11_rule {M : Mem} {z : Unit × Mem} {v0 : Option Nat} (h : L_X11_rule v0 M = some z) : K4 M z.2 := by
  unfold L_X11_rule at h
  have hg : K4 M M := K4.rf
  obtain ⟨_, -, h⟩ := bnd h
  rcases itor h with h | h
  · exact hg.trans (kyJ_X11_rule_16 h)
  · obtain ⟨_, -, h⟩ := bnd h
    obtain ⟨_, -, h⟩ := bnd h
    obtain ⟨w4, hw, h⟩ := bnd h
    have hg := hg.trans (kx_X11_tells hw).to4
    exact hg.trans (kyJ_X11_rule_16 h)
theorem kyJ_X11_reads_184 {M : Mem} {z : Unit × Mem} {k_114 : Option Nat → Mem → Option (Unit × Mem)} (hk_114 : ∀ (v0 : Option Nat) (Ma : Mem), k_114 v0 Ma = some z → K4 Ma z.2) {v0 : Option Nat} (h : J_X11_reads_184 k_114 v0 M = some z) : K4 M z.2 := by
  unfold J_X11_reads_184 at h
  have hg : K4 M M := K4.rf
  obtain ⟨_, -, h⟩ := bnd h
  obtain ⟨w1, hw, h⟩ := bnd h
  have hg := hg.trans (ky_X11_step 6 hw)
  exact hg.trans (hk_114 _ _ h)
theorem kyJ_X11_reads_114 {z : Unit × Mem} : ∀ (n : Nat) (v0 : Option Nat) (M : Mem), J_X11_reads_114 n v0 M = some z → K4 M z.2 := by
  intro n
  induction n with
  | zero => intro v0 M h; exact nomatch h
  | succ n ih =>
    intro v0 M h
    unfold J_X11_reads_114 at h
    have hg : K4 M M := K4.rf
    obtain ⟨_, -, h⟩ := bnd h
    rcases itor h with h | h
    · cases h; exact hg
    · obtain ⟨_, -, h⟩ := bnd h
      rcases itor h with h | h
      · cases h; exact hg
      · obtain ⟨_, -, h⟩ := bnd h
        obtain ⟨w2, hw, h⟩ := bnd h
        have hg := hg.trans (kx_X11_isWord hw).to4
        rcases itor h with h | h
        · obtain ⟨_, -, h⟩ := bnd h
          obtain ⟨w3, hw, h⟩ := bnd h
          have hg := hg.trans (kx_X11_isWord hw).to4
          rcases itor h with h | h
          · obtain ⟨_, -, h⟩ := bnd h
            obtain ⟨w4, hw, h⟩ := bnd h
            have hg := hg.trans (kx_X11_isWord hw).to4
            rcases itor h with h | h
            · exact hg.trans (kyJ_X11_reads_184 ih h)
            · obtain ⟨_, -, h⟩ := bnd h
              obtain ⟨w5, hw, h⟩ := bnd h
              have hg := hg.trans (kx_X11_isWord hw).to4
              rcases itor h with h | h
              · exact hg.trans (kyJ_X11_reads_184 ih h)
              · obtain ⟨_, -, h⟩ := bnd h
                obtain ⟨w6, hw, h⟩ := bnd h
                have hg := hg.trans (kx_X11_isWord hw).to4
                rcases itor h with h | h
                · obtain ⟨_, -, h⟩ := bnd h
                  obtain ⟨w7, hw, h⟩ := bnd h
                  have hg := hg.trans (kx_X11_stops hw).to4
                  exact hg.trans (ih _ _ h)
                · exact hg.trans (kyJ_X11_reads_184 ih h)
          · obtain ⟨_, -, h⟩ := bnd h
            obtain ⟨w8, hw, h⟩ := bnd h
            have hg := hg.trans (ky_X11_rule hw)
            exact hg.trans (ih _ _ h)
        · obtain ⟨_, -, h⟩ := bnd h
          obtain ⟨w9, hw, h⟩ := bnd h
          have hg := hg.trans (ky_X11_aConst hw)
          exact hg.trans (ih _ _ h)
theorem kyJ_X11_reads_108 {M : Mem} {z : Unit × Mem} {v0 : Option Nat} (h : J_X11_reads_108 v0 M = some z) : K4 M z.2 := by
  unfold J_X11_reads_108 at h
  have hg : K4 M M := K4.rf
  obtain ⟨_, -, h⟩ := bnd h
  obtain ⟨w10, hw, h⟩ := bnd h
  have hg := hg.trans (kx_X11_must hw).to4
  exact hg.trans (kyJ_X11_reads_114 FU _ _ h)
theorem ky_X11_reads {M : Mem} {z : Unit × Mem} {v0 : Option Nat} (h : L_X11_reads v0 M = some z) : K4 M z.2 := by
  unfold L_X11_reads at h
  have hg : K4 M M := K4.rf
  obtain ⟨_, hw, h⟩ := bnd h
  have hg := hg.trans (k3_pI (by decide) hw).to4
  obtain ⟨_, hw, h⟩ := bnd h
  have hg := hg.trans (k3_pZ (by decide) hw).to4
  obtain ⟨_, hw, h⟩ := bnd h
  have hg := hg.trans (k3_pI (by decide) hw).to4
  obtain ⟨_, hw, h⟩ := bnd h
  have hg := hg.trans (k3_pI (by decide) hw).to4
  obtain ⟨_, hw, h⟩ := bnd h
  have hg := hg.trans (k3_pI (by decide) hw).to4
  obtain ⟨_, hw, h⟩ := bnd h
  have hg := hg.trans (k3_pI (by decide) hw).to4
  obtain ⟨_, hw, h⟩ := bnd h
  have hg := hg.trans (k3_pI (by decide) hw).to4
  obtain ⟨_, hw, h⟩ := bnd h
  have hg := hg.trans (k3_pI (by decide) hw).to4
  obtain ⟨_, hw, h⟩ := bnd h
  have hg := hg.trans (k3_pI (by decide) hw).to4
  obtain ⟨_, hw, h⟩ := bnd h
  have hg := hg.trans (k3_pI (by decide) hw).to4
  obtain ⟨_, hw, h⟩ := bnd h
  have hg := hg.trans (k3_pI (by decide) hw).to4
  obtain ⟨_, hw, h⟩ := bnd h
  have hg := hg.trans (k3_pI (by decide) hw).to4
  obtain ⟨_, hw, h⟩ := bnd h
  have hg := hg.trans (k3_pI (by decide) hw).to4
  obtain ⟨_, -, h⟩ := bnd h
  obtain ⟨w11, hw, h⟩ := bnd h
  have hg := hg.trans (kx_X11_advance hw).to4
  obtain ⟨_, -, h⟩ := bnd h
  obtain ⟨w12, hw, h⟩ := bnd h
  have hg := hg.trans (kx_X11_isWord hw).to4
  rcases itor h with h | h
  · exact hg.trans (kyJ_X11_reads_114 FU _ _ h)
  · obtain ⟨_, -, h⟩ := bnd h
    obtain ⟨w13, hw, h⟩ := bnd h
    have hg := hg.trans (kx_X11_advance hw).to4
    obtain ⟨_, -, h⟩ := bnd h
    obtain ⟨_, -, h⟩ := bnd h
    obtain ⟨w14, hw, h⟩ := bnd h
    have hg := hg.trans (kx_X11_takesNumber hw).to4
    obtain ⟨_, -, h⟩ := bnd h
    rcases itor h with h | h
    · exact hg.trans (kyJ_X11_reads_108 h)
    · obtain ⟨_, -, h⟩ := bnd h
      obtain ⟨w15, hw, h⟩ := bnd h
      have hg := hg.trans (kx_X11_yearOf hw).to4
      obtain ⟨_, hw, h⟩ := bnd h
      have hg := hg.trans (k3_pI (by decide) hw).to4
      exact hg.trans (kyJ_X11_reads_108 h)
theorem kxJ_X11_keeps_236 {z : Unit × Mem} : ∀ (n : Nat) (v0 : Option Nat) (v1 : Int32) (v2 : Int32) (M : Mem), J_X11_keeps_236 n v0 v1 v2 M = some z → K3 M z.2 := by
  intro n
  induction n with
  | zero => intro v0 v1 v2 M h; exact nomatch h
  | succ n ih =>
    intro v0 v1 v2 M h
    unfold J_X11_keeps_236 at h
    have hg : K3 M M := K3.rf
    obtain ⟨_, -, h⟩ := bnd h
    rcases itor h with h | h
    · cases h; exact hg
    · obtain ⟨_, -, h⟩ := bnd h
      obtain ⟨_, -, h⟩ := bnd h
      obtain ⟨_, -, h⟩ := bnd h
      obtain ⟨_, hw, h⟩ := bnd h
      have hg := hg.trans (k3_uI (by decide) hw)
      obtain ⟨_, -, h⟩ := bnd h
      obtain ⟨_, -, h⟩ := bnd h
      obtain ⟨_, -, h⟩ := bnd h
      obtain ⟨_, hw, h⟩ := bnd h
      have hg := hg.trans (k3_uL hw)
      obtain ⟨_, -, h⟩ := bnd h
      obtain ⟨_, -, h⟩ := bnd h
      obtain ⟨_, -, h⟩ := bnd h
      obtain ⟨_, hw, h⟩ := bnd h
      have hg := hg.trans (k3_uI (by decide) hw)
      exact hg.trans (ih _ _ _ _ h)
theorem kxJ_X11_keeps_159 {z : Unit × Mem} : ∀ (n : Nat) (v0 : Option Nat) (v1 : Int32) (v2 : Int32) (M : Mem), J_X11_keeps_159 n v0 v1 v2 M = some z → K3 M z.2 := by
  intro n
  induction n with
  | zero => intro v0 v1 v2 M h; exact nomatch h
  | succ n ih =>
    intro v0 v1 v2 M h
    unfold J_X11_keeps_159 at h
    have hg : K3 M M := K3.rf
    obtain ⟨_, -, h⟩ := bnd h
    rcases itor h with h | h
    · obtain ⟨_, -, h⟩ := bnd h
      obtain ⟨_, -, h⟩ := bnd h
      obtain ⟨_, hw, h⟩ := bnd h
      have hg := hg.trans (k3_uI (by decide) hw)
      exact hg.trans (kxJ_X11_keeps_236 FU _ _ _ _ h)
    · obtain ⟨_, -, h⟩ := bnd h
      obtain ⟨_, -, h⟩ := bnd h
      obtain ⟨_, -, h⟩ := bnd h
      obtain ⟨_, hw, h⟩ := bnd h
      have hg := hg.trans (k3_uI (by decide) hw)
      obtain ⟨_, -, h⟩ := bnd h
      obtain ⟨_, -, h⟩ := bnd h
      obtain ⟨_, -, h⟩ := bnd h
      obtain ⟨_, hw, h⟩ := bnd h
      have hg := hg.trans (k3_uI (by decide) hw)
      obtain ⟨_, -, h⟩ := bnd h
      obtain ⟨_, -, h⟩ := bnd h
      obtain ⟨_, -, h⟩ := bnd h
      obtain ⟨_, hw, h⟩ := bnd h
      have hg := hg.trans (k3_uI (by decide) hw)
      exact hg.trans (ih _ _ _ _ h)
theorem kxJ_X11_keeps_99 {z : Unit × Mem} : ∀ (n : Nat) (v0 : Option Nat) (v1 : Int32) (v2 : Int32) (M : Mem), J_X11_keeps_99 n v0 v1 v2 M = some z → K3 M z.2 := by
  intro n
  induction n with
  | zero => intro v0 v1 v2 M h; exact nomatch h
  | succ n ih =>
    intro v0 v1 v2 M h
    unfold J_X11_keeps_99 at h
    have hg : K3 M M := K3.rf
    obtain ⟨_, -, h⟩ := bnd h
    rcases itor h with h | h
    · obtain ⟨_, -, h⟩ := bnd h
      obtain ⟨_, -, h⟩ := bnd h
      obtain ⟨_, hw, h⟩ := bnd h
      have hg := hg.trans (k3_uI (by decide) hw)
      exact hg.trans (kxJ_X11_keeps_159 FU _ _ _ _ h)
    · obtain ⟨_, -, h⟩ := bnd h
      obtain ⟨_, -, h⟩ := bnd h
      obtain ⟨_, -, h⟩ := bnd h
      obtain ⟨_, hw, h⟩ := bnd h
      have hg := hg.trans (k3_uL hw)
      obtain ⟨_, -, h⟩ := bnd h
      obtain ⟨_, -, h⟩ := bnd h
      obtain ⟨_, -, h⟩ := bnd h
      obtain ⟨_, hw, h⟩ := bnd h
      have hg := hg.trans (k3_uI (by decide) hw)
      exact hg.trans (ih _ _ _ _ h)
theorem kxJ_X11_keeps_39 {z : Unit × Mem} : ∀ (n : Nat) (v0 : Option Nat) (v1 : Int32) (v2 : Int32) (M : Mem), J_X11_keeps_39 n v0 v1 v2 M = some z → K3 M z.2 := by
  intro n
  induction n with
  | zero => intro v0 v1 v2 M h; exact nomatch h
  | succ n ih =>
    intro v0 v1 v2 M h
    unfold J_X11_keeps_39 at h
    have hg : K3 M M := K3.rf
    obtain ⟨_, -, h⟩ := bnd h
    rcases itor h with h | h
    · obtain ⟨_, -, h⟩ := bnd h
      obtain ⟨_, -, h⟩ := bnd h
      obtain ⟨_, hw, h⟩ := bnd h
      have hg := hg.trans (k3_uI (by decide) hw)
      exact hg.trans (kxJ_X11_keeps_99 FU _ _ _ _ h)
    · obtain ⟨_, -, h⟩ := bnd h
      obtain ⟨_, -, h⟩ := bnd h
      obtain ⟨_, -, h⟩ := bnd h
      obtain ⟨_, hw, h⟩ := bnd h
      have hg := hg.trans (k3_uL hw)
      obtain ⟨_, -, h⟩ := bnd h
      obtain ⟨_, -, h⟩ := bnd h
      obtain ⟨_, -, h⟩ := bnd h
      obtain ⟨_, hw, h⟩ := bnd h
      have hg := hg.trans (k3_uI (by decide) hw)
      exact hg.trans (ih _ _ _ _ h)
theorem kx_X11_keeps {M : Mem} {z : Unit × Mem} {v0 : Option Nat} {v1 : Int32} (h : L_X11_keeps v0 v1 M = some z) : K3 M z.2 := by
  unfold L_X11_keeps at h
  have hg : K3 M M := K3.rf
  obtain ⟨_, -, h⟩ := bnd h
  obtain ⟨_, hw, h⟩ := bnd h
  have hg := hg.trans (k3_uN (by decide) hw)
  obtain ⟨_, -, h⟩ := bnd h
  obtain ⟨_, -, h⟩ := bnd h
  obtain ⟨_, hw, h⟩ := bnd h
  have hg := hg.trans (k3_uI (by decide) hw)
  obtain ⟨_, -, h⟩ := bnd h
  obtain ⟨_, -, h⟩ := bnd h
  obtain ⟨_, hw, h⟩ := bnd h
  have hg := hg.trans (k3_uI (by decide) hw)
  obtain ⟨_, -, h⟩ := bnd h
  obtain ⟨_, -, h⟩ := bnd h
  obtain ⟨_, hw, h⟩ := bnd h
  have hg := hg.trans (k3_uI (by decide) hw)
  exact hg.trans (kxJ_X11_keeps_39 FU _ _ _ _ h)
theorem kxJ_X11_copies_282 {z : Unit × Mem} : ∀ (n : Nat) (v0 : Option Nat) (v1 : Int32) (v2 : Int32) (v3 : Int32) (M : Mem), J_X11_copies_282 n v0 v1 v2 v3 M = some z → K3 M z.2 := by
  intro n
  induction n with
  | zero => intro v0 v1 v2 v3 M h; exact nomatch h
  | succ n ih =>
    intro v0 v1 v2 v3 M h
    unfold J_X11_copies_282 at h
    have hg : K3 M M := K3.rf
    rcases itor h with h | h
    · cases h; exact hg
    · obtain ⟨_, -, h⟩ := bnd h
      obtain ⟨_, -, h⟩ := bnd h
      obtain ⟨_, -, h⟩ := bnd h
      obtain ⟨_, hw, h⟩ := bnd h
      have hg := hg.trans (k3_uI (by decide) hw)
      obtain ⟨_, -, h⟩ := bnd h
      obtain ⟨_, -, h⟩ := bnd h
      obtain ⟨_, -, h⟩ := bnd h
      obtain ⟨_, hw, h⟩ := bnd h
      have hg := hg.trans (k3_uL hw)
      obtain ⟨_, -, h⟩ := bnd h
      obtain ⟨_, -, h⟩ := bnd h
      obtain ⟨_, -, h⟩ := bnd h
      obtain ⟨_, hw, h⟩ := bnd h
      have hg := hg.trans (k3_uI (by decide) hw)
      exact hg.trans (ih _ _ _ _ _ h)
theorem kxJ_X11_copies_202 {z : Unit × Mem} : ∀ (n : Nat) (v0 : Option Nat) (v1 : Int32) (v2 : Int32) (v3 : Int32) (M : Mem), J_X11_copies_202 n v0 v1 v2 v3 M = some z → K3 M z.2 := by
  intro n
  induction n with
  | zero => intro v0 v1 v2 v3 M h; exact nomatch h
  | succ n ih =>
    intro v0 v1 v2 v3 M h
    unfold J_X11_copies_202 at h
    have hg : K3 M M := K3.rf
    rcases itor h with h | h
    · exact hg.trans (kxJ_X11_copies_282 FU _ _ _ _ _ h)
    · obtain ⟨_, -, h⟩ := bnd h
      obtain ⟨_, -, h⟩ := bnd h
      obtain ⟨_, -, h⟩ := bnd h
      obtain ⟨_, hw, h⟩ := bnd h
      have hg := hg.trans (k3_uI (by decide) hw)
      obtain ⟨_, -, h⟩ := bnd h
      obtain ⟨_, -, h⟩ := bnd h
      obtain ⟨_, -, h⟩ := bnd h
      obtain ⟨_, hw, h⟩ := bnd h
      have hg := hg.trans (k3_uI (by decide) hw)
      obtain ⟨_, -, h⟩ := bnd h
      obtain ⟨_, -, h⟩ := bnd h
      obtain ⟨_, -, h⟩ := bnd h
      obtain ⟨_, hw, h⟩ := bnd h
      have hg := hg.trans (k3_uI (by decide) hw)
      exact hg.trans (ih _ _ _ _ _ h)
theorem kxJ_X11_copies_144 {z : Unit × Mem} : ∀ (n : Nat) (v0 : Option Nat) (v1 : Int32) (v2 : Int32) (v3 : Int32) (M : Mem), J_X11_copies_144 n v0 v1 v2 v3 M = some z → K3 M z.2 := by
  intro n
  induction n with
  | zero => intro v0 v1 v2 v3 M h; exact nomatch h
  | succ n ih =>
    intro v0 v1 v2 v3 M h
    unfold J_X11_copies_144 at h
    have hg : K3 M M := K3.rf
    rcases itor h with h | h
    · exact hg.trans (kxJ_X11_copies_202 FU _ _ _ _ _ h)
    · obtain ⟨_, -, h⟩ := bnd h
      obtain ⟨_, -, h⟩ := bnd h
      obtain ⟨_, -, h⟩ := bnd h
      obtain ⟨_, hw, h⟩ := bnd h
      have hg := hg.trans (k3_uL hw)
      obtain ⟨_, -, h⟩ := bnd h
      obtain ⟨_, -, h⟩ := bnd h
      obtain ⟨_, -, h⟩ := bnd h
      obtain ⟨_, hw, h⟩ := bnd h
      have hg := hg.trans (k3_uI (by decide) hw)
      exact hg.trans (ih _ _ _ _ _ h)
theorem kxJ_X11_copies_86 {z : Unit × Mem} : ∀ (n : Nat) (v0 : Option Nat) (v1 : Int32) (v2 : Int32) (v3 : Int32) (M : Mem), J_X11_copies_86 n v0 v1 v2 v3 M = some z → K3 M z.2 := by
  intro n
  induction n with
  | zero => intro v0 v1 v2 v3 M h; exact nomatch h
  | succ n ih =>
    intro v0 v1 v2 v3 M h
    unfold J_X11_copies_86 at h
    have hg : K3 M M := K3.rf
    rcases itor h with h | h
    · exact hg.trans (kxJ_X11_copies_144 FU _ _ _ _ _ h)
    · obtain ⟨_, -, h⟩ := bnd h
      obtain ⟨_, -, h⟩ := bnd h
      obtain ⟨_, -, h⟩ := bnd h
      obtain ⟨_, hw, h⟩ := bnd h
      have hg := hg.trans (k3_uL hw)
      obtain ⟨_, -, h⟩ := bnd h
      obtain ⟨_, -, h⟩ := bnd h
      obtain ⟨_, -, h⟩ := bnd h
      obtain ⟨_, hw, h⟩ := bnd h
      have hg := hg.trans (k3_uI (by decide) hw)
      exact hg.trans (ih _ _ _ _ _ h)
theorem kx_X11_copies {M : Mem} {z : Unit × Mem} {v0 : Option Nat} {v1 : Int32} (h : L_X11_copies v0 v1 M = some z) : K3 M z.2 := by
  unfold L_X11_copies at h
  have hg : K3 M M := K3.rf
  obtain ⟨_, -, h⟩ := bnd h
  obtain ⟨_, hw, h⟩ := bnd h
  have hg := hg.trans (k3_uN (by decide) hw)
  obtain ⟨_, -, h⟩ := bnd h
  obtain ⟨_, -, h⟩ := bnd h
  obtain ⟨_, -, h⟩ := bnd h
  obtain ⟨_, hw, h⟩ := bnd h
  have hg := hg.trans (k3_uI (by decide) hw)
  obtain ⟨_, -, h⟩ := bnd h
  obtain ⟨_, -, h⟩ := bnd h
  obtain ⟨_, -, h⟩ := bnd h
  obtain ⟨_, hw, h⟩ := bnd h
  have hg := hg.trans (k3_uI (by decide) hw)
  obtain ⟨_, -, h⟩ := bnd h
  obtain ⟨_, -, h⟩ := bnd h
  obtain ⟨_, -, h⟩ := bnd h
  obtain ⟨_, hw, h⟩ := bnd h
  have hg := hg.trans (k3_uI (by decide) hw)
  obtain ⟨_, -, h⟩ := bnd h
  obtain ⟨_, -, h⟩ := bnd h
  obtain ⟨_, -, h⟩ := bnd h
  obtain ⟨_, hw, h⟩ := bnd h
  have hg := hg.trans (k3_uI (by decide) hw)
  obtain ⟨_, -, h⟩ := bnd h
  obtain ⟨_, -, h⟩ := bnd h
  obtain ⟨_, -, h⟩ := bnd h
  obtain ⟨_, hw, h⟩ := bnd h
  have hg := hg.trans (k3_uI (by decide) hw)
  obtain ⟨_, -, h⟩ := bnd h
  obtain ⟨_, -, h⟩ := bnd h
  obtain ⟨_, -, h⟩ := bnd h
  obtain ⟨_, hw, h⟩ := bnd h
  have hg := hg.trans (k3_uI (by decide) hw)
  exact hg.trans (kxJ_X11_copies_86 FU _ _ _ _ _ h)
theorem kx_X11_isIn {M : Mem} {z : Int32 × Mem} {v0 : Int32} {v1 : Int32} (h : L_X11_isIn v0 v1 M = some z) : K3 M z.2 := by
  unfold L_X11_isIn at h
  have hg : K3 M M := K3.rf
  rcases itor h with h | h
  · obtain ⟨_, -, h⟩ := bnd h
    cases h; exact hg
  · rcases itor h with h | h
    · obtain ⟨_, -, h⟩ := bnd h
      cases h; exact hg
    · obtain ⟨_, -, h⟩ := bnd h
      cases h; exact hg
theorem kx_X11_isYear {M : Mem} {z : Int32 × Mem} {v0 : Int32} (h : L_X11_isYear v0 M = some z) : K3 M z.2 := by
  unfold L_X11_isYear at h
  have hg : K3 M M := K3.rf
  rcases itor h with h | h
  · obtain ⟨_, -, h⟩ := bnd h
    cases h; exact hg
  · rcases itor h with h | h
    · obtain ⟨_, -, h⟩ := bnd h
      cases h; exact hg
    · obtain ⟨_, -, h⟩ := bnd h
      cases h; exact hg
theorem ky_X11_sheet {M : Mem} {z : Int32 × Mem} {v0 : Option Nat} {v1 : Int32} (h : L_X11_sheet v0 v1 M = some z) : K4 M z.2 := by
  unfold L_X11_sheet at h
  have hg : K4 M M := K4.rf
  obtain ⟨w1, hw, h⟩ := bnd h
  have hg := hg.trans (kx_X11_isYear hw).to4
  rcases itor h with h | h
  · obtain ⟨_, -, h⟩ := bnd h
    obtain ⟨_, hw, h⟩ := bnd h
    have hg := hg.trans (k3_pI (by decide) hw).to4
    obtain ⟨_, hw, h⟩ := bnd h
    have hg := hg.trans (k3_pI (by decide) hw).to4
    obtain ⟨_, hw, h⟩ := bnd h
    have hg := hg.trans (k3_pI (by decide) hw).to4
    obtain ⟨_, -, h⟩ := bnd h
    obtain ⟨w2, hw, h⟩ := bnd h
    have hg := hg.trans (ky_X11_reads hw)
    obtain ⟨_, -, h⟩ := bnd h
    rcases itor h with h | h
    · obtain ⟨_, -, h⟩ := bnd h
      obtain ⟨_, -, h⟩ := bnd h
      obtain ⟨w3, hw, h⟩ := bnd h
      have hg := hg.trans (kx_X11_keeps hw).to4
      obtain ⟨_, -, h⟩ := bnd h
      obtain ⟨_, -, h⟩ := bnd h
      obtain ⟨_, hw, h⟩ := bnd h
      have hg := hg.trans (k3_uN (by decide) hw).to4
      obtain ⟨_, -, h⟩ := bnd h
      cases h; exact hg
    · cases h; exact hg
  · cases h; exact hg
theorem kx_X11_fault {M : Mem} {z : Int32 × Mem} {v0 : Option Nat} {v1 : Int32} (h : L_X11_fault v0 v1 M = some z) : K3 M z.2 := by
  unfold L_X11_fault at h
  have hg : K3 M M := K3.rf
  rcases itor h with h | h
  · rcases itor h with h | h
    · cases h; exact hg
    · obtain ⟨_, -, h⟩ := bnd h
      cases h; exact hg
  · obtain ⟨_, -, h⟩ := bnd h
    cases h; exact hg
theorem kx_X11_forget {M : Mem} {z : Int32 × Mem} {v0 : Option Nat} {v1 : Int32} (h : L_X11_forget v0 v1 M = some z) : K3 M z.2 := by
  unfold L_X11_forget at h
  have hg : K3 M M := K3.rf
  obtain ⟨w1, hw, h⟩ := bnd h
  have hg := hg.trans (kx_X11_isYear hw)
  rcases itor h with h | h
  · obtain ⟨_, -, h⟩ := bnd h
    cases h; exact hg
  · obtain ⟨_, -, h⟩ := bnd h
    obtain ⟨_, -, h⟩ := bnd h
    rcases itor h with h | h
    · obtain ⟨_, -, h⟩ := bnd h
      obtain ⟨_, hw, h⟩ := bnd h
      have hg := hg.trans (k3_uN (by decide) hw)
      obtain ⟨_, -, h⟩ := bnd h
      obtain ⟨_, hw, h⟩ := bnd h
      have hg := hg.trans (k3_uN (by decide) hw)
      obtain ⟨_, -, h⟩ := bnd h
      cases h; exact hg
    · obtain ⟨_, -, h⟩ := bnd h
      cases h; exact hg
theorem kxJ_X11_issue_27 {M : Mem} {z : Int32 × Mem} {k_4 : Option Nat → Int32 → Int32 → Mem → Option (Int32 × Mem)} (hk_4 : ∀ (v0 : Option Nat) (v1 : Int32) (v2 : Int32) (Ma : Mem), k_4 v0 v1 v2 Ma = some z → K3 Ma z.2) {v0 : Option Nat} {v2 : Int32} {s0 : Int32} {s1 : Int32} (h : J_X11_issue_27 k_4 v0 v2 s0 s1 M = some z) : K3 M z.2 := by
  unfold J_X11_issue_27 at h
  have hg : K3 M M := K3.rf
  exact hg.trans (hk_4 _ _ _ _ h)
theorem kxJ_X11_issue_77 {M : Mem} {z : Int32 × Mem} {k_37 : Option Nat → Int32 → Int32 → Mem → Option (Int32 × Mem)} (hk_37 : ∀ (v0 : Option Nat) (v1 : Int32) (v2 : Int32) (Ma : Mem), k_37 v0 v1 v2 Ma = some z → K3 Ma z.2) {k_45 : Option Nat → Int32 → Int32 → Int32 → Mem → Option (Int32 × Mem)} (hk_45 : ∀ (v0 : Option Nat) (v1 : Int32) (v2 : Int32) (v3 : Int32) (Ma : Mem), k_45 v0 v1 v2 v3 Ma = some z → K3 Ma z.2) {v0 : Option Nat} {v1 : Int32} {v2 : Int32} {v3 : Int32} (h : J_X11_issue_77 k_37 k_45 v0 v1 v2 v3 M = some z) : K3 M z.2 := by
  unfold J_X11_issue_77 at h
  have hg : K3 M M := K3.rf
  exact hg.trans (hk_45 _ _ _ _ _ h)
theorem kxJ_X11_issue_45 {z : Int32 × Mem} {k_37 : Option Nat → Int32 → Int32 → Mem → Option (Int32 × Mem)} (hk_37 : ∀ (v0 : Option Nat) (v1 : Int32) (v2 : Int32) (Ma : Mem), k_37 v0 v1 v2 Ma = some z → K3 Ma z.2) : ∀ (n : Nat) (v0 : Option Nat) (v1 : Int32) (v2 : Int32) (v3 : Int32) (M : Mem), J_X11_issue_45 k_37 n v0 v1 v2 v3 M = some z → K3 M z.2 := by
  intro n
  induction n with
  | zero => intro v0 v1 v2 v3 M h; exact nomatch h
  | succ n ih =>
    intro v0 v1 v2 v3 M h
    unfold J_X11_issue_45 at h
    have hg : K3 M M := K3.rf
    rcases itor h with h | h
    · exact hg.trans (hk_37 _ _ _ _ h)
    · obtain ⟨_, -, h⟩ := bnd h
      obtain ⟨_, -, h⟩ := bnd h
      rcases itor h with h | h
      · exact hg.trans (kxJ_X11_issue_77 hk_37 ih h)
      · obtain ⟨_, -, h⟩ := bnd h
        obtain ⟨_, -, h⟩ := bnd h
        rcases itor h with h | h
        · exact hg.trans (kxJ_X11_issue_77 hk_37 ih h)
        · exact hg.trans (kxJ_X11_issue_77 hk_37 ih h)
theorem kxJ_X11_issue_243 {M : Mem} {z : Int32 × Mem} {k_103 : Option Nat → Int32 → Int32 → Int32 → Mem → Option (Int32 × Mem)} (hk_103 : ∀ (v0 : Option Nat) (v1 : Int32) (v2 : Int32) (v3 : Int32) (Ma : Mem), k_103 v0 v1 v2 v3 Ma = some z → K3 Ma z.2) {v0 : Option Nat} {v1 : Int32} {v2 : Int32} {v3 : Int32} (h : J_X11_issue_243 k_103 v0 v1 v2 v3 M = some z) : K3 M z.2 := by
  unfold J_X11_issue_243 at h
  have hg : K3 M M := K3.rf
  exact hg.trans (hk_103 _ _ _ _ _ h)
theorem kxJ_X11_issue_197 {z : Int32 × Mem} {k_103 : Option Nat → Int32 → Int32 → Int32 → Mem → Option (Int32 × Mem)} (hk_103 : ∀ (v0 : Option Nat) (v1 : Int32) (v2 : Int32) (v3 : Int32) (Ma : Mem), k_103 v0 v1 v2 v3 Ma = some z → K3 Ma z.2) : ∀ (n : Nat) (v0 : Option Nat) (v1 : Int32) (v2 : Int32) (v3 : Int32) (v4 : Int32) (M : Mem), J_X11_issue_197 k_103 n v0 v1 v2 v3 v4 M = some z → K3 M z.2 := by
  intro n
  induction n with
  | zero => intro v0 v1 v2 v3 v4 M h; exact nomatch h
  | succ n ih =>
    intro v0 v1 v2 v3 v4 M h
    unfold J_X11_issue_197 at h
    have hg : K3 M M := K3.rf
    rcases itor h with h | h
    · obtain ⟨_, -, h⟩ := bnd h
      obtain ⟨_, -, h⟩ := bnd h
      rcases itor h with h | h
      · obtain ⟨_, -, h⟩ := bnd h
        obtain ⟨w1, hw, h⟩ := bnd h
        have hg := hg.trans (kx_X11_copies hw)
        exact hg.trans (kxJ_X11_issue_243 hk_103 h)
      · exact hg.trans (kxJ_X11_issue_243 hk_103 h)
    · obtain ⟨_, -, h⟩ := bnd h
      obtain ⟨_, hw, h⟩ := bnd h
      have hg := hg.trans (k3_uL hw)
      exact hg.trans (ih _ _ _ _ _ _ h)
theorem kxJ_X11_issue_169 {M : Mem} {z : Int32 × Mem} {k_103 : Option Nat → Int32 → Int32 → Int32 → Mem → Option (Int32 × Mem)} (hk_103 : ∀ (v0 : Option Nat) (v1 : Int32) (v2 : Int32) (v3 : Int32) (Ma : Mem), k_103 v0 v1 v2 v3 Ma = some z → K3 Ma z.2) {v0 : Option Nat} {v1 : Int32} {v2 : Int32} {v3 : Int32} {s0 : Option Nat} {s1 : Int32} {s2 : Int32} (h : J_X11_issue_169 k_103 v0 v1 v2 v3 s0 s1 s2 M = some z) : K3 M z.2 := by
  unfold J_X11_issue_169 at h
  have hg : K3 M M := K3.rf
  obtain ⟨_, hw, h⟩ := bnd h
  have hg := hg.trans (k3_uI (by decide) hw)
  obtain ⟨_, -, h⟩ := bnd h
  obtain ⟨_, hw, h⟩ := bnd h
  have hg := hg.trans (k3_uI (by decide) hw)
  obtain ⟨_, -, h⟩ := bnd h
  obtain ⟨_, hw, h⟩ := bnd h
  have hg := hg.trans (k3_uI (by decide) hw)
  obtain ⟨_, -, h⟩ := bnd h
  obtain ⟨_, hw, h⟩ := bnd h
  have hg := hg.trans (k3_uN (by decide) hw)
  exact hg.trans (kxJ_X11_issue_197 hk_103 FU _ _ _ _ _ _ h)
theorem kxJ_X11_issue_146 {M : Mem} {z : Int32 × Mem} {k_103 : Option Nat → Int32 → Int32 → Int32 → Mem → Option (Int32 × Mem)} (hk_103 : ∀ (v0 : Option Nat) (v1 : Int32) (v2 : Int32) (v3 : Int32) (Ma : Mem), k_103 v0 v1 v2 v3 Ma = some z → K3 Ma z.2) {v0 : Option Nat} {v1 : Int32} {v2 : Int32} {v3 : Int32} {s0 : Option Nat} {s1 : Int32} {s2 : Int32} (h : J_X11_issue_146 k_103 v0 v1 v2 v3 s0 s1 s2 M = some z) : K3 M z.2 := by
  unfold J_X11_issue_146 at h
  have hg : K3 M M := K3.rf
  obtain ⟨_, hw, h⟩ := bnd h
  have hg := hg.trans (k3_uI (by decide) hw)
  obtain ⟨_, -, h⟩ := bnd h
  obtain ⟨_, -, h⟩ := bnd h
  obtain ⟨_, -, h⟩ := bnd h
  rcases itor h with h | h
  · exact hg.trans (kxJ_X11_issue_169 hk_103 h)
  · obtain ⟨_, -, h⟩ := bnd h
    exact hg.trans (kxJ_X11_issue_169 hk_103 h)
theorem kxJ_X11_issue_103 {z : Int32 × Mem} : ∀ (n : Nat) (v0 : Option Nat) (v1 : Int32) (v2 : Int32) (v3 : Int32) (M : Mem), J_X11_issue_103 n v0 v1 v2 v3 M = some z → K3 M z.2 := by
  intro n
  induction n with
  | zero => intro v0 v1 v2 v3 M h; exact nomatch h
  | succ n ih =>
    intro v0 v1 v2 v3 M h
    unfold J_X11_issue_103 at h
    have hg : K3 M M := K3.rf
    rcases itor h with h | h
    · cases h; exact hg
    · obtain ⟨_, -, h⟩ := bnd h
      obtain ⟨_, hw, h⟩ := bnd h
      have hg := hg.trans (k3_uN (by decide) hw)
      rcases itor h with h | h
      · obtain ⟨_, -, h⟩ := bnd h
        obtain ⟨_, -, h⟩ := bnd h
        obtain ⟨_, -, h⟩ := bnd h
        rcases itor h with h | h
        · exact hg.trans (kxJ_X11_issue_146 ih h)
        · exact hg.trans (kxJ_X11_issue_146 ih h)
      · exact hg.trans (kxJ_X11_issue_243 ih h)
theorem kxJ_X11_issue_37 {z : Int32 × Mem} : ∀ (n : Nat) (v0 : Option Nat) (v1 : Int32) (v2 : Int32) (M : Mem), J_X11_issue_37 n v0 v1 v2 M = some z → K3 M z.2 := by
  intro n
  induction n with
  | zero => intro v0 v1 v2 M h; exact nomatch h
  | succ n ih =>
    intro v0 v1 v2 M h
    unfold J_X11_issue_37 at h
    have hg : K3 M M := K3.rf
    rcases itor h with h | h
    · obtain ⟨_, -, h⟩ := bnd h
      obtain ⟨_, hw, h⟩ := bnd h
      have hg := hg.trans (k3_pI (by decide) hw)
      exact hg.trans (kxJ_X11_issue_103 FU _ _ _ _ _ h)
    · exact hg.trans (kxJ_X11_issue_45 ih FU _ _ _ _ _ h)
theorem kxJ_X11_issue_4 {z : Int32 × Mem} : ∀ (n : Nat) (v0 : Option Nat) (v1 : Int32) (v2 : Int32) (M : Mem), J_X11_issue_4 n v0 v1 v2 M = some z → K3 M z.2 := by
  intro n
  induction n with
  | zero => intro v0 v1 v2 M h; exact nomatch h
  | succ n ih =>
    intro v0 v1 v2 M h
    unfold J_X11_issue_4 at h
    have hg : K3 M M := K3.rf
    rcases itor h with h | h
    · exact hg.trans (kxJ_X11_issue_37 FU _ _ _ _ h)
    · obtain ⟨_, -, h⟩ := bnd h
      obtain ⟨_, -, h⟩ := bnd h
      rcases itor h with h | h
      · exact hg.trans (kxJ_X11_issue_27 ih h)
      · exact hg.trans (kxJ_X11_issue_27 ih h)
theorem kx_X11_issue {M : Mem} {z : Int32 × Mem} {v0 : Option Nat} (h : L_X11_issue v0 M = some z) : K3 M z.2 := by
  unfold L_X11_issue at h
  have hg : K3 M M := K3.rf
  exact hg.trans (kxJ_X11_issue_4 FU _ _ _ _ h)
theorem kx_X11_state {M : Mem} {z : Int32 × Mem} {v0 : Option Nat} {v1 : Int32} {v2 : Int32} (h : L_X11_state v0 v1 v2 M = some z) : K3 M z.2 := by
  unfold L_X11_state at h
  have hg : K3 M M := K3.rf
  obtain ⟨w1, hw, h⟩ := bnd h
  have hg := hg.trans (kx_X11_isYear hw)
  rcases itor h with h | h
  · rcases itor h with h | h
    · obtain ⟨_, -, h⟩ := bnd h
      obtain ⟨_, -, h⟩ := bnd h
      cases h; exact hg
    rcases itor h with h | h
    · obtain ⟨_, -, h⟩ := bnd h
      obtain ⟨_, -, h⟩ := bnd h
      cases h; exact hg
    rcases itor h with h | h
    · obtain ⟨_, -, h⟩ := bnd h
      obtain ⟨_, -, h⟩ := bnd h
      cases h; exact hg
    rcases itor h with h | h
    · obtain ⟨_, -, h⟩ := bnd h
      obtain ⟨_, -, h⟩ := bnd h
      cases h; exact hg
    rcases itor h with h | h
    · obtain ⟨_, -, h⟩ := bnd h
      obtain ⟨_, -, h⟩ := bnd h
      rcases itor h with h | h
      · cases h; exact hg
      · obtain ⟨_, -, h⟩ := bnd h
        obtain ⟨_, -, h⟩ := bnd h
        cases h; exact hg
    rcases itor h with h | h
    · obtain ⟨_, -, h⟩ := bnd h
      obtain ⟨_, -, h⟩ := bnd h
      rcases itor h with h | h
      · cases h; exact hg
      · obtain ⟨_, -, h⟩ := bnd h
        obtain ⟨_, -, h⟩ := bnd h
        cases h; exact hg
    rcases itor h with h | h
    · obtain ⟨_, -, h⟩ := bnd h
      obtain ⟨_, -, h⟩ := bnd h
      rcases itor h with h | h
      · cases h; exact hg
      · obtain ⟨_, -, h⟩ := bnd h
        obtain ⟨_, -, h⟩ := bnd h
        rcases itor h with h | h
        · cases h; exact hg
        · obtain ⟨_, -, h⟩ := bnd h
          obtain ⟨_, -, h⟩ := bnd h
          cases h; exact hg
    rcases itor h with h | h
    · obtain ⟨_, -, h⟩ := bnd h
      obtain ⟨_, -, h⟩ := bnd h
      rcases itor h with h | h
      · cases h; exact hg
      · cases h; exact hg
    cases h; exact hg
  · cases h; exact hg
theorem kx_X11_leans {M : Mem} {z : Int32 × Mem} {v0 : Option Nat} {v1 : Int32} {v2 : Int32} (h : L_X11_leans v0 v1 v2 M = some z) : K3 M z.2 := by
  unfold L_X11_leans at h
  have hg : K3 M M := K3.rf
  obtain ⟨w1, hw, h⟩ := bnd h
  have hg := hg.trans (kx_X11_isYear hw)
  rcases itor h with h | h
  · obtain ⟨_, -, h⟩ := bnd h
    cases h; exact hg
  · obtain ⟨w2, hw, h⟩ := bnd h
    have hg := hg.trans (kx_X11_isYear hw)
    rcases itor h with h | h
    · obtain ⟨_, -, h⟩ := bnd h
      cases h; exact hg
    · obtain ⟨_, -, h⟩ := bnd h
      obtain ⟨_, -, h⟩ := bnd h
      rcases itor h with h | h
      · obtain ⟨_, -, h⟩ := bnd h
        cases h; exact hg
      · obtain ⟨_, -, h⟩ := bnd h
        obtain ⟨_, -, h⟩ := bnd h
        rcases itor h with h | h
        · obtain ⟨_, -, h⟩ := bnd h
          cases h; exact hg
        · obtain ⟨_, -, h⟩ := bnd h
          cases h; exact hg
theorem kxJ_X11_constOf_41 {z : Int32 × Mem} {k_6 : Option Nat → Int64 → Int32 → Int32 → Mem → Option (Int32 × Mem)} (hk_6 : ∀ (v0 : Option Nat) (v2 : Int64) (v4 : Int32) (v5 : Int32) (Ma : Mem), k_6 v0 v2 v4 v5 Ma = some z → K3 Ma z.2) : ∀ (n : Nat) (v0 : Option Nat) (v2 : Int64) (v4 : Int32) (v5 : Int32) (v6 : Int32) (v7 : Int32) (M : Mem), J_X11_constOf_41 k_6 n v0 v2 v4 v5 v6 v7 M = some z → K3 M z.2 := by
  intro n
  induction n with
  | zero => intro v0 v2 v4 v5 v6 v7 M h; exact nomatch h
  | succ n ih =>
    intro v0 v2 v4 v5 v6 v7 M h
    unfold J_X11_constOf_41 at h
    have hg : K3 M M := K3.rf
    obtain ⟨_, -, h⟩ := bnd h
    obtain ⟨_, -, h⟩ := bnd h
    rcases itor h with h | h
    · obtain ⟨_, -, h⟩ := bnd h
      obtain ⟨_, -, h⟩ := bnd h
      exact hg.trans (hk_6 _ _ _ _ _ h)
    · obtain ⟨_, -, h⟩ := bnd h
      obtain ⟨_, -, h⟩ := bnd h
      rcases itor h with h | h
      · exact hg.trans (ih _ _ _ _ _ _ _ h)
      · cases h; exact hg
theorem kxJ_X11_constOf_6 {z : Int32 × Mem} : ∀ (n : Nat) (v0 : Option Nat) (v2 : Int64) (v4 : Int32) (v5 : Int32) (M : Mem), J_X11_constOf_6 n v0 v2 v4 v5 M = some z → K3 M z.2 := by
  intro n
  induction n with
  | zero => intro v0 v2 v4 v5 M h; exact nomatch h
  | succ n ih =>
    intro v0 v2 v4 v5 M h
    unfold J_X11_constOf_6 at h
    have hg : K3 M M := K3.rf
    rcases itor h with h | h
    · cases h; exact hg
    · rcases itor h with h | h
      · cases h; exact hg
      · obtain ⟨_, -, h⟩ := bnd h
        obtain ⟨_, -, h⟩ := bnd h
        rcases itor h with h | h
        · cases h; exact hg
        · exact hg.trans (kxJ_X11_constOf_41 ih FU _ _ _ _ _ _ _ h)
theorem kx_X11_constOf {M : Mem} {z : Int32 × Mem} {v0 : Option Nat} {v1 : Int32} {v2 : Int64} (h : L_X11_constOf v0 v1 v2 M = some z) : K3 M z.2 := by
  unfold L_X11_constOf at h
  have hg : K3 M M := K3.rf
  exact hg.trans (kxJ_X11_constOf_6 FU _ _ _ _ _ h)
theorem kx_X11_isSmall {M : Mem} {z : Int32 × Mem} {v0 : Int64} (h : L_X11_isSmall v0 M = some z) : K3 M z.2 := by
  unfold L_X11_isSmall at h
  have hg : K3 M M := K3.rf
  rcases itor h with h | h
  · obtain ⟨_, -, h⟩ := bnd h
    cases h; exact hg
  · rcases itor h with h | h
    · obtain ⟨_, -, h⟩ := bnd h
      cases h; exact hg
    · obtain ⟨_, -, h⟩ := bnd h
      cases h; exact hg
theorem kxJ_X11_comesOut_333 {M : Mem} {z : Int32 × Mem} {k_39 : Option Nat → Int32 → Int32 → Int32 → Int32 → Int32 → Mem → Option (Int32 × Mem)} (hk_39 : ∀ (v0 : Option Nat) (v1 : Int32) (v2 : Int32) (v3 : Int32) (v4 : Int32) (v5 : Int32) (Ma : Mem), k_39 v0 v1 v2 v3 v4 v5 Ma = some z → K3 Ma z.2) {v0 : Option Nat} {v1 : Int32} {v2 : Int32} {v3 : Int32} {v4 : Int32} {v5 : Int32} (h : J_X11_comesOut_333 k_39 v0 v1 v2 v3 v4 v5 M = some z) : K3 M z.2 := by
  unfold J_X11_comesOut_333 at h
  have hg : K3 M M := K3.rf
  obtain ⟨_, -, h⟩ := bnd h
  obtain ⟨_, -, h⟩ := bnd h
  obtain ⟨w1, hw, h⟩ := bnd h
  have hg := hg.trans (kx_X11_isSmall hw)
  rcases itor h with h | h
  · exact hg.trans (hk_39 _ _ _ _ _ _ _ h)
  · obtain ⟨_, -, h⟩ := bnd h
    cases h; exact hg
theorem kxJ_X11_comesOut_124 {M : Mem} {z : Int32 × Mem} {k_39 : Option Nat → Int32 → Int32 → Int32 → Int32 → Int32 → Mem → Option (Int32 × Mem)} (hk_39 : ∀ (v0 : Option Nat) (v1 : Int32) (v2 : Int32) (v3 : Int32) (v4 : Int32) (v5 : Int32) (Ma : Mem), k_39 v0 v1 v2 v3 v4 v5 Ma = some z → K3 Ma z.2) {v0 : Option Nat} {v1 : Int32} {v2 : Int32} {v3 : Int32} {v4 : Int32} {v5 : Int32} {s0 : Option Nat} {s1 : Int32} (h : J_X11_comesOut_124 k_39 v0 v1 v2 v3 v4 v5 s0 s1 M = some z) : K3 M z.2 := by
  unfold J_X11_comesOut_124 at h
  have hg : K3 M M := K3.rf
  obtain ⟨_, -, h⟩ := bnd h
  obtain ⟨_, -, h⟩ := bnd h
  obtain ⟨_, -, h⟩ := bnd h
  obtain ⟨w2, hw, h⟩ := bnd h
  have hg := hg.trans (kx_X11_constOf hw)
  rcases itor h with h | h
  · obtain ⟨_, -, h⟩ := bnd h
    cases h; exact hg
  · obtain ⟨_, -, h⟩ := bnd h
    obtain ⟨_, -, h⟩ := bnd h
    rcases itor h with h | h
    · obtain ⟨_, -, h⟩ := bnd h
      obtain ⟨_, -, h⟩ := bnd h
      obtain ⟨_, -, h⟩ := bnd h
      obtain ⟨_, hw, h⟩ := bnd h
      have hg := hg.trans (k3_uL hw)
      exact hg.trans (kxJ_X11_comesOut_333 hk_39 h)
    · obtain ⟨_, -, h⟩ := bnd h
      cases h; exact hg
theorem kxJ_X11_comesOut_332 {M : Mem} {z : Int32 × Mem} {k_39 : Option Nat → Int32 → Int32 → Int32 → Int32 → Int32 → Mem → Option (Int32 × Mem)} (hk_39 : ∀ (v0 : Option Nat) (v1 : Int32) (v2 : Int32) (v3 : Int32) (v4 : Int32) (v5 : Int32) (Ma : Mem), k_39 v0 v1 v2 v3 v4 v5 Ma = some z → K3 Ma z.2) {v0 : Option Nat} {v1 : Int32} {v2 : Int32} {v3 : Int32} {v4 : Int32} {v5 : Int32} {s0 : Option Nat} {s1 : Int32} {s2 : Int64} (h : J_X11_comesOut_332 k_39 v0 v1 v2 v3 v4 v5 s0 s1 s2 M = some z) : K3 M z.2 := by
  unfold J_X11_comesOut_332 at h
  have hg : K3 M M := K3.rf
  obtain ⟨_, hw, h⟩ := bnd h
  have hg := hg.trans (k3_uL hw)
  exact hg.trans (kxJ_X11_comesOut_333 hk_39 h)
theorem kxJ_X11_comesOut_289 {M : Mem} {z : Int32 × Mem} {k_39 : Option Nat → Int32 → Int32 → Int32 → Int32 → Int32 → Mem → Option (Int32 × Mem)} (hk_39 : ∀ (v0 : Option Nat) (v1 : Int32) (v2 : Int32) (v3 : Int32) (v4 : Int32) (v5 : Int32) (Ma : Mem), k_39 v0 v1 v2 v3 v4 v5 Ma = some z → K3 Ma z.2) {v0 : Option Nat} {v1 : Int32} {v2 : Int32} {v3 : Int32} {v4 : Int32} {v5 : Int32} {v6 : Int32} {v7 : Int64} {v9 : Int64} (h : J_X11_comesOut_289 k_39 v0 v1 v2 v3 v4 v5 v6 v7 v9 M = some z) : K3 M z.2 := by
  unfold J_X11_comesOut_289 at h
  have hg : K3 M M := K3.rf
  obtain ⟨_, -, h⟩ := bnd h
  rcases itor h with h | h
  · rcases itor h with h | h
    · exact hg.trans (kxJ_X11_comesOut_332 hk_39 h)
    · exact hg.trans (kxJ_X11_comesOut_332 hk_39 h)
  · exact hg.trans (kxJ_X11_comesOut_332 hk_39 h)
theorem kxJ_X11_comesOut_259 {M : Mem} {z : Int32 × Mem} {k_39 : Option Nat → Int32 → Int32 → Int32 → Int32 → Int32 → Mem → Option (Int32 × Mem)} (hk_39 : ∀ (v0 : Option Nat) (v1 : Int32) (v2 : Int32) (v3 : Int32) (v4 : Int32) (v5 : Int32) (Ma : Mem), k_39 v0 v1 v2 v3 v4 v5 Ma = some z → K3 Ma z.2) {v0 : Option Nat} {v1 : Int32} {v2 : Int32} {v3 : Int32} {v4 : Int32} {v5 : Int32} {v6 : Int32} {v7 : Int64} {v9 : Int64} {v11 : Int64} {s0 : Int64} (h : J_X11_comesOut_259 k_39 v0 v1 v2 v3 v4 v5 v6 v7 v9 v11 s0 M = some z) : K3 M z.2 := by
  unfold J_X11_comesOut_259 at h
  have hg : K3 M M := K3.rf
  rcases itor h with h | h
  · exact hg.trans (kxJ_X11_comesOut_289 hk_39 h)
  · rcases itor h with h | h
    · exact hg.trans (kxJ_X11_comesOut_289 hk_39 h)
    · have h := nnz h
      rcases itor h with h | h
      · exact hg.trans (kxJ_X11_comesOut_289 hk_39 h)
      · obtain ⟨_, -, h⟩ := bnd h
        cases h; exact hg
theorem kxJ_X11_comesOut_242 {M : Mem} {z : Int32 × Mem} {k_39 : Option Nat → Int32 → Int32 → Int32 → Int32 → Int32 → Mem → Option (Int32 × Mem)} (hk_39 : ∀ (v0 : Option Nat) (v1 : Int32) (v2 : Int32) (v3 : Int32) (v4 : Int32) (v5 : Int32) (Ma : Mem), k_39 v0 v1 v2 v3 v4 v5 Ma = some z → K3 Ma z.2) {v0 : Option Nat} {v1 : Int32} {v2 : Int32} {v3 : Int32} {v4 : Int32} {v5 : Int32} {v6 : Int32} {v7 : Int64} {v9 : Int64} {s0 : Int64} (h : J_X11_comesOut_242 k_39 v0 v1 v2 v3 v4 v5 v6 v7 v9 s0 M = some z) : K3 M z.2 := by
  unfold J_X11_comesOut_242 at h
  have hg : K3 M M := K3.rf
  rcases itor h with h | h
  · exact hg.trans (kxJ_X11_comesOut_259 hk_39 h)
  · exact hg.trans (kxJ_X11_comesOut_259 hk_39 h)
theorem kxJ_X11_comesOut_39 {z : Int32 × Mem} : ∀ (n : Nat) (v0 : Option Nat) (v1 : Int32) (v2 : Int32) (v3 : Int32) (v4 : Int32) (v5 : Int32) (M : Mem), J_X11_comesOut_39 n v0 v1 v2 v3 v4 v5 M = some z → K3 M z.2 := by
  intro n
  induction n with
  | zero => intro v0 v1 v2 v3 v4 v5 M h; exact nomatch h
  | succ n ih =>
    intro v0 v1 v2 v3 v4 v5 M h
    unfold J_X11_comesOut_39 at h
    have hg : K3 M M := K3.rf
    obtain ⟨_, -, h⟩ := bnd h
    obtain ⟨_, -, h⟩ := bnd h
    rcases itor h with h | h
    · obtain ⟨_, -, h⟩ := bnd h
      obtain ⟨_, -, h⟩ := bnd h
      obtain ⟨_, -, h⟩ := bnd h
      obtain ⟨_, hw, h⟩ := bnd h
      have hg := hg.trans (k3_uL hw)
      obtain ⟨_, -, h⟩ := bnd h
      cases h; exact hg
    · obtain ⟨_, -, h⟩ := bnd h
      obtain ⟨_, -, h⟩ := bnd h
      rcases itor h with h | h
      · rcases itor h with h | h
        · rcases itor h with h | h
          · obtain ⟨_, -, h⟩ := bnd h
            obtain ⟨_, -, h⟩ := bnd h
            obtain ⟨_, -, h⟩ := bnd h
            obtain ⟨_, -, h⟩ := bnd h
            rcases itor h with h | h
            · exact hg.trans (kxJ_X11_comesOut_242 ih h)
            · exact hg.trans (kxJ_X11_comesOut_242 ih h)
          · obtain ⟨_, -, h⟩ := bnd h
            obtain ⟨_, -, h⟩ := bnd h
            obtain ⟨_, -, h⟩ := bnd h
            obtain ⟨_, hw, h⟩ := bnd h
            have hg := hg.trans (k3_uL hw)
            exact hg.trans (kxJ_X11_comesOut_333 ih h)
        · obtain ⟨_, -, h⟩ := bnd h
          obtain ⟨_, -, h⟩ := bnd h
          rcases itor h with h | h
          · obtain ⟨_, -, h⟩ := bnd h
            obtain ⟨_, -, h⟩ := bnd h
            exact hg.trans (kxJ_X11_comesOut_124 ih h)
          · exact hg.trans (kxJ_X11_comesOut_124 ih h)
      · obtain ⟨_, -, h⟩ := bnd h
        obtain ⟨_, -, h⟩ := bnd h
        obtain ⟨_, -, h⟩ := bnd h
        obtain ⟨_, hw, h⟩ := bnd h
        have hg := hg.trans (k3_uL hw)
        exact hg.trans (kxJ_X11_comesOut_333 ih h)
theorem kx_X11_comesOut {M : Mem} {z : Int32 × Mem} {v0 : Option Nat} {v1 : Int32} (h : L_X11_comesOut v0 v1 M = some z) : K3 M z.2 := by
  unfold L_X11_comesOut at h
  have hg : K3 M M := K3.rf
  have h := nnz h
  obtain ⟨_, -, h⟩ := bnd h
  obtain ⟨_, -, h⟩ := bnd h
  have h := nnz h
  obtain ⟨_, -, h⟩ := bnd h
  exact hg.trans (kxJ_X11_comesOut_39 FU _ _ _ _ _ _ _ h)
theorem kxJ_X11_worksConstants_134 {M : Mem} {z : Unit × Mem} {k_44 : Option Nat → Int32 → Mem → Option (Unit × Mem)} (hk_44 : ∀ (v0 : Option Nat) (v1 : Int32) (Ma : Mem), k_44 v0 v1 Ma = some z → K3 Ma z.2) {k_52 : Option Nat → Int32 → Int32 → Mem → Option (Unit × Mem)} (hk_52 : ∀ (v0 : Option Nat) (v1 : Int32) (v2 : Int32) (Ma : Mem), k_52 v0 v1 v2 Ma = some z → K3 Ma z.2) {v0 : Option Nat} {v1 : Int32} {v2 : Int32} (h : J_X11_worksConstants_134 k_44 k_52 v0 v1 v2 M = some z) : K3 M z.2 := by
  unfold J_X11_worksConstants_134 at h
  have hg : K3 M M := K3.rf
  exact hg.trans (hk_52 _ _ _ _ h)
theorem kxJ_X11_worksConstants_133 {M : Mem} {z : Unit × Mem} {k_44 : Option Nat → Int32 → Mem → Option (Unit × Mem)} (hk_44 : ∀ (v0 : Option Nat) (v1 : Int32) (Ma : Mem), k_44 v0 v1 Ma = some z → K3 Ma z.2) {k_52 : Option Nat → Int32 → Int32 → Mem → Option (Unit × Mem)} (hk_52 : ∀ (v0 : Option Nat) (v1 : Int32) (v2 : Int32) (Ma : Mem), k_52 v0 v1 v2 Ma = some z → K3 Ma z.2) {v0 : Option Nat} {v2 : Int32} {s0 : Int32} (h : J_X11_worksConstants_133 k_44 k_52 v0 v2 s0 M = some z) : K3 M z.2 := by
  unfold J_X11_worksConstants_133 at h
  have hg : K3 M M := K3.rf
  exact hg.trans (kxJ_X11_worksConstants_134 hk_44 hk_52 h)
theorem kxJ_X11_worksConstants_128 {M : Mem} {z : Unit × Mem} {k_44 : Option Nat → Int32 → Mem → Option (Unit × Mem)} (hk_44 : ∀ (v0 : Option Nat) (v1 : Int32) (Ma : Mem), k_44 v0 v1 Ma = some z → K3 Ma z.2) {k_52 : Option Nat → Int32 → Int32 → Mem → Option (Unit × Mem)} (hk_52 : ∀ (v0 : Option Nat) (v1 : Int32) (v2 : Int32) (Ma : Mem), k_52 v0 v1 v2 Ma = some z → K3 Ma z.2) {v0 : Option Nat} {v2 : Int32} (h : J_X11_worksConstants_128 k_44 k_52 v0 v2 M = some z) : K3 M z.2 := by
  unfold J_X11_worksConstants_128 at h
  have hg : K3 M M := K3.rf
  exact hg.trans (kxJ_X11_worksConstants_133 hk_44 hk_52 h)
theorem kxJ_X11_worksConstants_52 {z : Unit × Mem} {k_44 : Option Nat → Int32 → Mem → Option (Unit × Mem)} (hk_44 : ∀ (v0 : Option Nat) (v1 : Int32) (Ma : Mem), k_44 v0 v1 Ma = some z → K3 Ma z.2) : ∀ (n : Nat) (v0 : Option Nat) (v1 : Int32) (v2 : Int32) (M : Mem), J_X11_worksConstants_52 k_44 n v0 v1 v2 M = some z → K3 M z.2 := by
  intro n
  induction n with
  | zero => intro v0 v1 v2 M h; exact nomatch h
  | succ n ih =>
    intro v0 v1 v2 M h
    unfold J_X11_worksConstants_52 at h
    have hg : K3 M M := K3.rf
    rcases itor h with h | h
    · exact hg.trans (hk_44 _ _ _ h)
    · have h := nnz h
      obtain ⟨_, -, h⟩ := bnd h
      obtain ⟨_, -, h⟩ := bnd h
      rcases itor h with h | h
      · exact hg.trans (kxJ_X11_worksConstants_134 hk_44 ih h)
      · obtain ⟨_, -, h⟩ := bnd h
        obtain ⟨_, -, h⟩ := bnd h
        rcases itor h with h | h
        · exact hg.trans (kxJ_X11_worksConstants_134 hk_44 ih h)
        · have h := nnz h
          obtain ⟨_, -, h⟩ := bnd h
          obtain ⟨_, -, h⟩ := bnd h
          rcases itor h with h | h
          · obtain ⟨_, -, h⟩ := bnd h
            obtain ⟨_, -, h⟩ := bnd h
            obtain ⟨w1, hw, h⟩ := bnd h
            have hg := hg.trans (kx_X11_comesOut hw)
            obtain ⟨_, hw, h⟩ := bnd h
            have hg := hg.trans (k3_uN (by decide) hw)
            rcases itor h with h | h
            · exact hg.trans (kxJ_X11_worksConstants_128 hk_44 ih h)
            · obtain ⟨_, -, h⟩ := bnd h
              obtain ⟨_, -, h⟩ := bnd h
              rcases itor h with h | h
              · exact hg.trans (kxJ_X11_worksConstants_133 hk_44 ih h)
              · exact hg.trans (kxJ_X11_worksConstants_128 hk_44 ih h)
          · exact hg.trans (kxJ_X11_worksConstants_134 hk_44 ih h)
theorem kxJ_X11_worksConstants_44 {z : Unit × Mem} : ∀ (n : Nat) (v0 : Option Nat) (v1 : Int32) (M : Mem), J_X11_worksConstants_44 n v0 v1 M = some z → K3 M z.2 := by
  intro n
  induction n with
  | zero => intro v0 v1 M h; exact nomatch h
  | succ n ih =>
    intro v0 v1 M h
    unfold J_X11_worksConstants_44 at h
    have hg : K3 M M := K3.rf
    rcases itor h with h | h
    · cases h; exact hg
    · exact hg.trans (kxJ_X11_worksConstants_52 ih FU _ _ _ _ h)
theorem kxJ_X11_worksConstants_22 {z : Unit × Mem} : ∀ (n : Nat) (v0 : Option Nat) (v1 : Int32) (M : Mem), J_X11_worksConstants_22 n v0 v1 M = some z → K3 M z.2 := by
  intro n
  induction n with
  | zero => intro v0 v1 M h; exact nomatch h
  | succ n ih =>
    intro v0 v1 M h
    unfold J_X11_worksConstants_22 at h
    have hg : K3 M M := K3.rf
    rcases itor h with h | h
    · exact hg.trans (kxJ_X11_worksConstants_44 FU _ _ _ h)
    · obtain ⟨_, -, h⟩ := bnd h
      obtain ⟨_, hw, h⟩ := bnd h
      have hg := hg.trans (k3_uN (by decide) hw)
      exact hg.trans (ih _ _ _ h)
theorem kx_X11_worksConstants {M : Mem} {z : Unit × Mem} {v0 : Option Nat} (h : L_X11_worksConstants v0 M = some z) : K3 M z.2 := by
  unfold L_X11_worksConstants at h
  have hg : K3 M M := K3.rf
  obtain ⟨_, -, h⟩ := bnd h
  obtain ⟨_, -, h⟩ := bnd h
  rcases itor h with h | h
  · obtain ⟨_, -, h⟩ := bnd h
    obtain ⟨_, hw, h⟩ := bnd h
    have hg := hg.trans (k3_pI (by decide) hw)
    exact hg.trans (kxJ_X11_worksConstants_22 FU _ _ _ h)
  · cases h; exact hg
theorem kx_X11_constant {M : Mem} {z : Int64 × Mem} {v0 : Option Nat} {v1 : Int32} {v2 : Int32} (h : L_X11_constant v0 v1 v2 M = some z) : K3 M z.2 := by
  unfold L_X11_constant at h
  have hg : K3 M M := K3.rf
  obtain ⟨w1, hw, h⟩ := bnd h
  have hg := hg.trans (kx_X11_isYear hw)
  rcases itor h with h | h
  · cases h; exact hg
  · obtain ⟨_, -, h⟩ := bnd h
    obtain ⟨_, -, h⟩ := bnd h
    rcases itor h with h | h
    · cases h; exact hg
    · obtain ⟨_, -, h⟩ := bnd h
      obtain ⟨_, -, h⟩ := bnd h
      obtain ⟨w2, hw, h⟩ := bnd h
      have hg := hg.trans (kx_X11_isIn hw)
      rcases itor h with h | h
      · obtain ⟨_, -, h⟩ := bnd h
        obtain ⟨w3, hw, h⟩ := bnd h
        have hg := hg.trans (kx_X11_worksConstants hw)
        obtain ⟨_, -, h⟩ := bnd h
        obtain ⟨_, -, h⟩ := bnd h
        rcases itor h with h | h
        · cases h; exact hg
        · obtain ⟨_, -, h⟩ := bnd h
          obtain ⟨_, -, h⟩ := bnd h
          cases h; exact hg
      · cases h; exact hg
theorem kx_X11_entry {M : Mem} {z : Int64 × Mem} {v0 : Option Nat} {v1 : Int32} {v2 : Int32} {v3 : Int32} (h : L_X11_entry v0 v1 v2 v3 M = some z) : K3 M z.2 := by
  unfold L_X11_entry at h
  have hg : K3 M M := K3.rf
  obtain ⟨w1, hw, h⟩ := bnd h
  have hg := hg.trans (kx_X11_isYear hw)
  rcases itor h with h | h
  · cases h; exact hg
  · obtain ⟨_, -, h⟩ := bnd h
    obtain ⟨_, -, h⟩ := bnd h
    rcases itor h with h | h
    · obtain ⟨_, -, h⟩ := bnd h
      obtain ⟨_, -, h⟩ := bnd h
      obtain ⟨w2, hw, h⟩ := bnd h
      have hg := hg.trans (kx_X11_isIn hw)
      rcases itor h with h | h
      · cases h; exact hg
      · obtain ⟨_, -, h⟩ := bnd h
        obtain ⟨_, -, h⟩ := bnd h
        obtain ⟨w3, hw, h⟩ := bnd h
        have hg := hg.trans (kx_X11_isIn hw)
        rcases itor h with h | h
        · obtain ⟨_, -, h⟩ := bnd h
          obtain ⟨_, -, h⟩ := bnd h
          cases h; exact hg
        · cases h; exact hg
    · cases h; exact hg
theorem kx_X11_told {M : Mem} {z : Int64 × Mem} {v0 : Option Nat} {v1 : Int32} {v2 : Int32} (h : L_X11_told v0 v1 v2 M = some z) : K3 M z.2 := by
  unfold L_X11_told at h
  have hg : K3 M M := K3.rf
  rcases itor h with h | h
  · cases h; exact hg
  rcases itor h with h | h
  · obtain ⟨_, -, h⟩ := bnd h
    cases h; exact hg
  rcases itor h with h | h
  · obtain ⟨_, -, h⟩ := bnd h
    cases h; exact hg
  rcases itor h with h | h
  · obtain ⟨_, -, h⟩ := bnd h
    cases h; exact hg
  obtain ⟨_, -, h⟩ := bnd h
  cases h; exact hg
theorem kxJ_X11_tableOf_41 {z : Int32 × Mem} {k_6 : Option Nat → Int64 → Int32 → Int32 → Mem → Option (Int32 × Mem)} (hk_6 : ∀ (v0 : Option Nat) (v2 : Int64) (v4 : Int32) (v5 : Int32) (Ma : Mem), k_6 v0 v2 v4 v5 Ma = some z → K3 Ma z.2) : ∀ (n : Nat) (v0 : Option Nat) (v2 : Int64) (v4 : Int32) (v5 : Int32) (v6 : Int32) (v7 : Int32) (M : Mem), J_X11_tableOf_41 k_6 n v0 v2 v4 v5 v6 v7 M = some z → K3 M z.2 := by
  intro n
  induction n with
  | zero => intro v0 v2 v4 v5 v6 v7 M h; exact nomatch h
  | succ n ih =>
    intro v0 v2 v4 v5 v6 v7 M h
    unfold J_X11_tableOf_41 at h
    have hg : K3 M M := K3.rf
    obtain ⟨_, -, h⟩ := bnd h
    obtain ⟨_, -, h⟩ := bnd h
    rcases itor h with h | h
    · obtain ⟨_, -, h⟩ := bnd h
      obtain ⟨_, -, h⟩ := bnd h
      exact hg.trans (hk_6 _ _ _ _ _ h)
    · obtain ⟨_, -, h⟩ := bnd h
      obtain ⟨_, -, h⟩ := bnd h
      rcases itor h with h | h
      · exact hg.trans (ih _ _ _ _ _ _ _ h)
      · cases h; exact hg
theorem kxJ_X11_tableOf_6 {z : Int32 × Mem} : ∀ (n : Nat) (v0 : Option Nat) (v2 : Int64) (v4 : Int32) (v5 : Int32) (M : Mem), J_X11_tableOf_6 n v0 v2 v4 v5 M = some z → K3 M z.2 := by
  intro n
  induction n with
  | zero => intro v0 v2 v4 v5 M h; exact nomatch h
  | succ n ih =>
    intro v0 v2 v4 v5 M h
    unfold J_X11_tableOf_6 at h
    have hg : K3 M M := K3.rf
    rcases itor h with h | h
    · cases h; exact hg
    · rcases itor h with h | h
      · cases h; exact hg
      · obtain ⟨_, -, h⟩ := bnd h
        obtain ⟨_, -, h⟩ := bnd h
        rcases itor h with h | h
        · cases h; exact hg
        · exact hg.trans (kxJ_X11_tableOf_41 ih FU _ _ _ _ _ _ _ h)
theorem kx_X11_tableOf {M : Mem} {z : Int32 × Mem} {v0 : Option Nat} {v1 : Int32} {v2 : Int64} (h : L_X11_tableOf v0 v1 v2 M = some z) : K3 M z.2 := by
  unfold L_X11_tableOf at h
  have hg : K3 M M := K3.rf
  exact hg.trans (kxJ_X11_tableOf_6 FU _ _ _ _ _ h)
theorem kxJ_X11_looks_146 {M : Mem} {z : Int32 × Mem} {rF : Option Nat → Int32 → Mem → Option (Int32 × Mem)} (hrK : ∀ (a0 : Option Nat) (a1 : Int32) (Ma : Mem) (w : Int32 × Mem), rF a0 a1 Ma = some w → K3 Ma w.2) {v0 : Option Nat} {v5 : Int64} {v8 : Int32} {v9 : Int32} (h : J_X11_looks_146 rF v0 v5 v8 v9 M = some z) : K3 M z.2 := by
  unfold J_X11_looks_146 at h
  have hg : K3 M M := K3.rf
  obtain ⟨_, -, h⟩ := bnd h
  have h := nnz h
  obtain ⟨_, -, h⟩ := bnd h
  obtain ⟨_, hw, h⟩ := bnd h
  have hg := hg.trans (k3_pL hw)
  cases h; exact hg
theorem kxJ_X11_looks_71 {M : Mem} {z : Int32 × Mem} {rF : Option Nat → Int32 → Mem → Option (Int32 × Mem)} (hrK : ∀ (a0 : Option Nat) (a1 : Int32) (Ma : Mem) (w : Int32 × Mem), rF a0 a1 Ma = some w → K3 Ma w.2) {v0 : Option Nat} {v1 : Int32} {v5 : Int64} {v8 : Int32} {v9 : Int32} {s0 : Int32} (h : J_X11_looks_71 rF v0 v1 v5 v8 v9 s0 M = some z) : K3 M z.2 := by
  unfold J_X11_looks_71 at h
  have hg : K3 M M := K3.rf
  rcases itor h with h | h
  · rcases itor h with h | h
    · cases h; exact hg
    · obtain ⟨_, -, h⟩ := bnd h
      have h := nnz h
      obtain ⟨_, -, h⟩ := bnd h
      rcases itor h with h | h
      · obtain ⟨_, -, h⟩ := bnd h
        obtain ⟨_, -, h⟩ := bnd h
        rcases itor h with h | h
        · exact hg.trans (kxJ_X11_looks_146 hrK h)
        · rcases itor h with h | h
          · exact hg.trans (kxJ_X11_looks_146 hrK h)
          · obtain ⟨_, -, h⟩ := bnd h
            obtain ⟨_, -, h⟩ := bnd h
            obtain ⟨_, hw, h⟩ := bnd h
            have hg := hg.trans (k3_uI (by decide) hw)
            exact hg.trans (kxJ_X11_looks_146 hrK h)
      · cases h; exact hg
  · cases h; exact hg
theorem kxJ_X11_looks_33 {M : Mem} {z : Int32 × Mem} {rF : Option Nat → Int32 → Mem → Option (Int32 × Mem)} (hrK : ∀ (a0 : Option Nat) (a1 : Int32) (Ma : Mem) (w : Int32 × Mem), rF a0 a1 Ma = some w → K3 Ma w.2) {v0 : Option Nat} {v1 : Int32} {v3 : Int64} {v5 : Int64} {s0 : Option Nat} {s1 : Int32} (h : J_X11_looks_33 rF v0 v1 v3 v5 s0 s1 M = some z) : K3 M z.2 := by
  unfold J_X11_looks_33 at h
  have hg : K3 M M := K3.rf
  obtain ⟨_, -, h⟩ := bnd h
  obtain ⟨w1, hw, h⟩ := bnd h
  have hg := hg.trans (kx_X11_tableOf hw)
  rcases itor h with h | h
  · have h := nnz h
    rcases itor h with h | h
    · exact hg.trans (kxJ_X11_looks_71 hrK h)
    · obtain ⟨_, -, h⟩ := bnd h
      obtain ⟨w2, hw, h⟩ := bnd h
      have hg := hg.trans (hrK _ _ _ _ hw)
      exact hg.trans (kxJ_X11_looks_71 hrK h)
  · cases h; exact hg
theorem kxJ_X11_looks_13 {M : Mem} {z : Int32 × Mem} {rF : Option Nat → Int32 → Mem → Option (Int32 × Mem)} (hrK : ∀ (a0 : Option Nat) (a1 : Int32) (Ma : Mem) (w : Int32 × Mem), rF a0 a1 Ma = some w → K3 Ma w.2) {v0 : Option Nat} {v1 : Int32} {v2 : Int32} {v3 : Int64} {v5 : Int64} {s0 : Int32} (h : J_X11_looks_13 rF v0 v1 v2 v3 v5 s0 M = some z) : K3 M z.2 := by
  unfold J_X11_looks_13 at h
  have hg : K3 M M := K3.rf
  rcases itor h with h | h
  · rcases itor h with h | h
    · exact hg.trans (kxJ_X11_looks_33 hrK h)
    · exact hg.trans (kxJ_X11_looks_33 hrK h)
  · cases h; exact hg
theorem kx_X11_looks {M : Mem} {z : Int32 × Mem} {rF : Option Nat → Int32 → Mem → Option (Int32 × Mem)} (hrK : ∀ (a0 : Option Nat) (a1 : Int32) (Ma : Mem) (w : Int32 × Mem), rF a0 a1 Ma = some w → K3 Ma w.2) {v0 : Option Nat} {v1 : Int32} {v2 : Int32} {v3 : Int64} {v5 : Int64} (h : L_X11_looks rF v0 v1 v2 v3 v5 M = some z) : K3 M z.2 := by
  unfold L_X11_looks at h
  have hg : K3 M M := K3.rf
  rcases itor h with h | h
  · exact hg.trans (kxJ_X11_looks_13 hrK h)
  · obtain ⟨_, -, h⟩ := bnd h
    obtain ⟨w3, hw, h⟩ := bnd h
    have hg := hg.trans (hrK _ _ _ _ hw)
    exact hg.trans (kxJ_X11_looks_13 hrK h)
theorem kxJ_X11_acted_185 {M : Mem} {z : Int64 × Mem} {v1 : Int64} {v3 : Int64} (h : J_X11_acted_185 v1 v3 M = some z) : K3 M z.2 := by
  unfold J_X11_acted_185 at h
  have hg : K3 M M := K3.rf
  rcases itor h with h | h
  · cases h; exact hg
  · cases h; exact hg
theorem kx_X11_acted {M : Mem} {z : Int64 × Mem} {v0 : Int32} {v1 : Int64} {v3 : Int64} (h : L_X11_acted v0 v1 v3 M = some z) : K3 M z.2 := by
  unfold L_X11_acted at h
  have hg : K3 M M := K3.rf
  rcases itor h with h | h
  · rcases itor h with h | h
    · have h := nnz h
      cases h; exact hg
    · cases h; exact hg
  rcases itor h with h | h
  · cases h; exact hg
  rcases itor h with h | h
  · cases h; exact hg
  rcases itor h with h | h
  · cases h; exact hg
  rcases itor h with h | h
  · rcases itor h with h | h
    · have h := nnz h
      cases h; exact hg
    · cases h; exact hg
  rcases itor h with h | h
  · rcases itor h with h | h
    · cases h; exact hg
    · cases h; exact hg
  rcases itor h with h | h
  · rcases itor h with h | h
    · cases h; exact hg
    · cases h; exact hg
  exact hg.trans (kxJ_X11_acted_185 h)
theorem kxJ_X11_works_439 {M : Mem} {z : Int32 × Mem} {rF : Option Nat → Int32 → Mem → Option (Int32 × Mem)} (hrK : ∀ (a0 : Option Nat) (a1 : Int32) (Ma : Mem) (w : Int32 × Mem), rF a0 a1 Ma = some w → K3 Ma w.2) {k_22 : Option Nat → Int32 → Int32 → Int32 → Int32 → Int32 → Int32 → Mem → Option (Int32 × Mem)} (hk_22 : ∀ (v0 : Option Nat) (v1 : Int32) (v3 : Int32) (v4 : Int32) (v5 : Int32) (v6 : Int32) (v7 : Int32) (Ma : Mem), k_22 v0 v1 v3 v4 v5 v6 v7 Ma = some z → K3 Ma z.2) {v0 : Option Nat} {v1 : Int32} {v3 : Int32} {v4 : Int32} {v5 : Int32} {v6 : Int32} {v7 : Int32} (h : J_X11_works_439 rF k_22 v0 v1 v3 v4 v5 v6 v7 M = some z) : K3 M z.2 := by
  unfold J_X11_works_439 at h
  have hg : K3 M M := K3.rf
  exact hg.trans (hk_22 _ _ _ _ _ _ _ _ h)
theorem kxJ_X11_works_123 {M : Mem} {z : Int32 × Mem} {rF : Option Nat → Int32 → Mem → Option (Int32 × Mem)} (hrK : ∀ (a0 : Option Nat) (a1 : Int32) (Ma : Mem) (w : Int32 × Mem), rF a0 a1 Ma = some w → K3 Ma w.2) {k_22 : Option Nat → Int32 → Int32 → Int32 → Int32 → Int32 → Int32 → Mem → Option (Int32 × Mem)} (hk_22 : ∀ (v0 : Option Nat) (v1 : Int32) (v3 : Int32) (v4 : Int32) (v5 : Int32) (v6 : Int32) (v7 : Int32) (Ma : Mem), k_22 v0 v1 v3 v4 v5 v6 v7 Ma = some z → K3 Ma z.2) {v0 : Option Nat} {v1 : Int32} {v3 : Int32} {v4 : Int32} {v5 : Int32} {v6 : Int32} {v7 : Int32} {s0 : Option Nat} {s1 : Int32} {s2 : Int64} (h : J_X11_works_123 rF k_22 v0 v1 v3 v4 v5 v6 v7 s0 s1 s2 M = some z) : K3 M z.2 := by
  unfold J_X11_works_123 at h
  have hg : K3 M M := K3.rf
  obtain ⟨_, hw, h⟩ := bnd h
  have hg := hg.trans (k3_uL hw)
  obtain ⟨_, -, h⟩ := bnd h
  obtain ⟨_, hw, h⟩ := bnd h
  have hg := hg.trans (k3_pI (by decide) hw)
  exact hg.trans (kxJ_X11_works_439 hrK hk_22 h)
theorem kxJ_X11_works_98 {M : Mem} {z : Int32 × Mem} {rF : Option Nat → Int32 → Mem → Option (Int32 × Mem)} (hrK : ∀ (a0 : Option Nat) (a1 : Int32) (Ma : Mem) (w : Int32 × Mem), rF a0 a1 Ma = some w → K3 Ma w.2) {k_22 : Option Nat → Int32 → Int32 → Int32 → Int32 → Int32 → Int32 → Mem → Option (Int32 × Mem)} (hk_22 : ∀ (v0 : Option Nat) (v1 : Int32) (v3 : Int32) (v4 : Int32) (v5 : Int32) (v6 : Int32) (v7 : Int32) (Ma : Mem), k_22 v0 v1 v3 v4 v5 v6 v7 Ma = some z → K3 Ma z.2) {v0 : Option Nat} {v1 : Int32} {v3 : Int32} {v4 : Int32} {v5 : Int32} {v6 : Int32} {v7 : Int32} {v8 : Int32} {v9 : Int64} (h : J_X11_works_98 rF k_22 v0 v1 v3 v4 v5 v6 v7 v8 v9 M = some z) : K3 M z.2 := by
  unfold J_X11_works_98 at h
  have hg : K3 M M := K3.rf
  obtain ⟨_, -, h⟩ := bnd h
  obtain ⟨_, -, h⟩ := bnd h
  rcases itor h with h | h
  · obtain ⟨_, -, h⟩ := bnd h
    obtain ⟨w1, hw, h⟩ := bnd h
    have hg := hg.trans (kx_X11_told hw)
    exact hg.trans (kxJ_X11_works_123 hrK hk_22 h)
  · exact hg.trans (kxJ_X11_works_123 hrK hk_22 h)
theorem kxJ_X11_works_216 {M : Mem} {z : Int32 × Mem} {rF : Option Nat → Int32 → Mem → Option (Int32 × Mem)} (hrK : ∀ (a0 : Option Nat) (a1 : Int32) (Ma : Mem) (w : Int32 × Mem), rF a0 a1 Ma = some w → K3 Ma w.2) {k_22 : Option Nat → Int32 → Int32 → Int32 → Int32 → Int32 → Int32 → Mem → Option (Int32 × Mem)} (hk_22 : ∀ (v0 : Option Nat) (v1 : Int32) (v3 : Int32) (v4 : Int32) (v5 : Int32) (v6 : Int32) (v7 : Int32) (Ma : Mem), k_22 v0 v1 v3 v4 v5 v6 v7 Ma = some z → K3 Ma z.2) {v0 : Option Nat} {v1 : Int32} {v3 : Int32} {v4 : Int32} {v5 : Int32} {v6 : Int32} {v7 : Int32} (h : J_X11_works_216 rF k_22 v0 v1 v3 v4 v5 v6 v7 M = some z) : K3 M z.2 := by
  unfold J_X11_works_216 at h
  have hg : K3 M M := K3.rf
  exact hg.trans (kxJ_X11_works_439 hrK hk_22 h)
theorem kxJ_X11_works_182 {M : Mem} {z : Int32 × Mem} {rF : Option Nat → Int32 → Mem → Option (Int32 × Mem)} (hrK : ∀ (a0 : Option Nat) (a1 : Int32) (Ma : Mem) (w : Int32 × Mem), rF a0 a1 Ma = some w → K3 Ma w.2) {k_22 : Option Nat → Int32 → Int32 → Int32 → Int32 → Int32 → Int32 → Mem → Option (Int32 × Mem)} (hk_22 : ∀ (v0 : Option Nat) (v1 : Int32) (v3 : Int32) (v4 : Int32) (v5 : Int32) (v6 : Int32) (v7 : Int32) (Ma : Mem), k_22 v0 v1 v3 v4 v5 v6 v7 Ma = some z → K3 Ma z.2) {v0 : Option Nat} {v1 : Int32} {v3 : Int32} {v4 : Int32} {v5 : Int32} {v7 : Int32} (h : J_X11_works_182 rF k_22 v0 v1 v3 v4 v5 v7 M = some z) : K3 M z.2 := by
  unfold J_X11_works_182 at h
  have hg : K3 M M := K3.rf
  exact hg.trans (kxJ_X11_works_216 hrK hk_22 h)
theorem kxJ_X11_works_160 {M : Mem} {z : Int32 × Mem} {rF : Option Nat → Int32 → Mem → Option (Int32 × Mem)} (hrK : ∀ (a0 : Option Nat) (a1 : Int32) (Ma : Mem) (w : Int32 × Mem), rF a0 a1 Ma = some w → K3 Ma w.2) {k_22 : Option Nat → Int32 → Int32 → Int32 → Int32 → Int32 → Int32 → Mem → Option (Int32 × Mem)} (hk_22 : ∀ (v0 : Option Nat) (v1 : Int32) (v3 : Int32) (v4 : Int32) (v5 : Int32) (v6 : Int32) (v7 : Int32) (Ma : Mem), k_22 v0 v1 v3 v4 v5 v6 v7 Ma = some z → K3 Ma z.2) {v0 : Option Nat} {v1 : Int32} {v3 : Int32} {v4 : Int32} {v5 : Int32} {v6 : Int32} {v7 : Int32} {v9 : Int64} {s0 : Option Nat} {s1 : Int32} (h : J_X11_works_160 rF k_22 v0 v1 v3 v4 v5 v6 v7 v9 s0 s1 M = some z) : K3 M z.2 := by
  unfold J_X11_works_160 at h
  have hg : K3 M M := K3.rf
  obtain ⟨_, -, h⟩ := bnd h
  obtain ⟨w2, hw, h⟩ := bnd h
  have hg := hg.trans (kx_X11_constOf hw)
  rcases itor h with h | h
  · exact hg.trans (kxJ_X11_works_182 hrK hk_22 h)
  · obtain ⟨_, -, h⟩ := bnd h
    obtain ⟨_, -, h⟩ := bnd h
    rcases itor h with h | h
    · obtain ⟨_, -, h⟩ := bnd h
      obtain ⟨_, -, h⟩ := bnd h
      obtain ⟨_, -, h⟩ := bnd h
      obtain ⟨_, -, h⟩ := bnd h
      obtain ⟨_, hw, h⟩ := bnd h
      have hg := hg.trans (k3_uL hw)
      obtain ⟨_, -, h⟩ := bnd h
      obtain ⟨_, hw, h⟩ := bnd h
      have hg := hg.trans (k3_pI (by decide) hw)
      exact hg.trans (kxJ_X11_works_216 hrK hk_22 h)
    · exact hg.trans (kxJ_X11_works_182 hrK hk_22 h)
theorem kxJ_X11_works_403 {M : Mem} {z : Int32 × Mem} {rF : Option Nat → Int32 → Mem → Option (Int32 × Mem)} (hrK : ∀ (a0 : Option Nat) (a1 : Int32) (Ma : Mem) (w : Int32 × Mem), rF a0 a1 Ma = some w → K3 Ma w.2) {k_22 : Option Nat → Int32 → Int32 → Int32 → Int32 → Int32 → Int32 → Mem → Option (Int32 × Mem)} (hk_22 : ∀ (v0 : Option Nat) (v1 : Int32) (v3 : Int32) (v4 : Int32) (v5 : Int32) (v6 : Int32) (v7 : Int32) (Ma : Mem), k_22 v0 v1 v3 v4 v5 v6 v7 Ma = some z → K3 Ma z.2) {v0 : Option Nat} {v1 : Int32} {v3 : Int32} {v4 : Int32} {v5 : Int32} {v6 : Int32} {v7 : Int32} {v8 : Int32} (h : J_X11_works_403 rF k_22 v0 v1 v3 v4 v5 v6 v7 v8 M = some z) : K3 M z.2 := by
  unfold J_X11_works_403 at h
  have hg : K3 M M := K3.rf
  obtain ⟨_, -, h⟩ := bnd h
  obtain ⟨_, -, h⟩ := bnd h
  obtain ⟨_, -, h⟩ := bnd h
  obtain ⟨_, -, h⟩ := bnd h
  obtain ⟨_, -, h⟩ := bnd h
  obtain ⟨_, -, h⟩ := bnd h
  obtain ⟨_, -, h⟩ := bnd h
  obtain ⟨_, -, h⟩ := bnd h
  obtain ⟨w3, hw, h⟩ := bnd h
  have hg := hg.trans (kx_X11_acted hw)
  obtain ⟨_, hw, h⟩ := bnd h
  have hg := hg.trans (k3_uL hw)
  exact hg.trans (kxJ_X11_works_439 hrK hk_22 h)
theorem kxJ_X11_works_381 {M : Mem} {z : Int32 × Mem} {rF : Option Nat → Int32 → Mem → Option (Int32 × Mem)} (hrK : ∀ (a0 : Option Nat) (a1 : Int32) (Ma : Mem) (w : Int32 × Mem), rF a0 a1 Ma = some w → K3 Ma w.2) {k_22 : Option Nat → Int32 → Int32 → Int32 → Int32 → Int32 → Int32 → Mem → Option (Int32 × Mem)} (hk_22 : ∀ (v0 : Option Nat) (v1 : Int32) (v3 : Int32) (v4 : Int32) (v5 : Int32) (v6 : Int32) (v7 : Int32) (Ma : Mem), k_22 v0 v1 v3 v4 v5 v6 v7 Ma = some z → K3 Ma z.2) {v0 : Option Nat} {v1 : Int32} {v3 : Int32} {v4 : Int32} {v5 : Int32} {v6 : Int32} {v7 : Int32} {v8 : Int32} (h : J_X11_works_381 rF k_22 v0 v1 v3 v4 v5 v6 v7 v8 M = some z) : K3 M z.2 := by
  unfold J_X11_works_381 at h
  have hg : K3 M M := K3.rf
  obtain ⟨_, -, h⟩ := bnd h
  obtain ⟨_, -, h⟩ := bnd h
  obtain ⟨_, -, h⟩ := bnd h
  rcases itor h with h | h
  · exact hg.trans (kxJ_X11_works_403 hrK hk_22 h)
  · exact hg.trans (kxJ_X11_works_439 hrK hk_22 h)
theorem kxJ_X11_works_137 {M : Mem} {z : Int32 × Mem} {rF : Option Nat → Int32 → Mem → Option (Int32 × Mem)} (hrK : ∀ (a0 : Option Nat) (a1 : Int32) (Ma : Mem) (w : Int32 × Mem), rF a0 a1 Ma = some w → K3 Ma w.2) {k_22 : Option Nat → Int32 → Int32 → Int32 → Int32 → Int32 → Int32 → Mem → Option (Int32 × Mem)} (hk_22 : ∀ (v0 : Option Nat) (v1 : Int32) (v3 : Int32) (v4 : Int32) (v5 : Int32) (v6 : Int32) (v7 : Int32) (Ma : Mem), k_22 v0 v1 v3 v4 v5 v6 v7 Ma = some z → K3 Ma z.2) {v0 : Option Nat} {v1 : Int32} {v3 : Int32} {v4 : Int32} {v5 : Int32} {v6 : Int32} {v7 : Int32} {v8 : Int32} {v9 : Int64} {v11 : Int32} (h : J_X11_works_137 rF k_22 v0 v1 v3 v4 v5 v6 v7 v8 v9 v11 M = some z) : K3 M z.2 := by
  unfold J_X11_works_137 at h
  have hg : K3 M M := K3.rf
  rcases itor h with h | h
  · rcases itor h with h | h
    · rcases itor h with h | h
      · rcases itor h with h | h
        · rcases itor h with h | h
          · obtain ⟨_, -, h⟩ := bnd h
            obtain ⟨_, hw, h⟩ := bnd h
            have hg := hg.trans (k3_pI (by decide) hw)
            rcases itor h with h | h
            · exact hg.trans (kxJ_X11_works_381 hrK hk_22 h)
            · rcases itor h with h | h
              · exact hg.trans (kxJ_X11_works_403 hrK hk_22 h)
              · exact hg.trans (kxJ_X11_works_381 hrK hk_22 h)
          · obtain ⟨_, -, h⟩ := bnd h
            obtain ⟨_, hw, h⟩ := bnd h
            have hg := hg.trans (k3_pI (by decide) hw)
            obtain ⟨_, -, h⟩ := bnd h
            obtain ⟨_, -, h⟩ := bnd h
            obtain ⟨_, -, h⟩ := bnd h
            rcases itor h with h | h
            · exact hg.trans (kxJ_X11_works_439 hrK hk_22 h)
            · exact hg.trans (kxJ_X11_works_439 hrK hk_22 h)
        · exact hg.trans (kxJ_X11_works_439 hrK hk_22 h)
      · obtain ⟨_, -, h⟩ := bnd h
        obtain ⟨_, -, h⟩ := bnd h
        obtain ⟨_, -, h⟩ := bnd h
        obtain ⟨_, -, h⟩ := bnd h
        obtain ⟨_, -, h⟩ := bnd h
        obtain ⟨_, hw, h⟩ := bnd h
        have hg := hg.trans (k3_uL hw)
        exact hg.trans (kxJ_X11_works_439 hrK hk_22 h)
    · obtain ⟨_, -, h⟩ := bnd h
      obtain ⟨_, -, h⟩ := bnd h
      obtain ⟨_, -, h⟩ := bnd h
      obtain ⟨_, -, h⟩ := bnd h
      obtain ⟨w4, hw, h⟩ := bnd h
      have hg := hg.trans (kx_X11_looks hrK hw)
      obtain ⟨_, -, h⟩ := bnd h
      obtain ⟨_, -, h⟩ := bnd h
      obtain ⟨_, -, h⟩ := bnd h
      obtain ⟨_, hw, h⟩ := bnd h
      have hg := hg.trans (k3_uL hw)
      exact hg.trans (kxJ_X11_works_439 hrK hk_22 h)
  · obtain ⟨_, -, h⟩ := bnd h
    obtain ⟨w5, hw, h⟩ := bnd h
    have hg := hg.trans (kx_X11_worksConstants hw)
    rcases itor h with h | h
    · exact hg.trans (kxJ_X11_works_160 hrK hk_22 h)
    · exact hg.trans (kxJ_X11_works_160 hrK hk_22 h)
theorem kxJ_X11_works_462 {M : Mem} {z : Int32 × Mem} {rF : Option Nat → Int32 → Mem → Option (Int32 × Mem)} (hrK : ∀ (a0 : Option Nat) (a1 : Int32) (Ma : Mem) (w : Int32 × Mem), rF a0 a1 Ma = some w → K3 Ma w.2) {v0 : Option Nat} {v5 : Int32} {v6 : Int32} (h : J_X11_works_462 rF v0 v5 v6 M = some z) : K3 M z.2 := by
  unfold J_X11_works_462 at h
  have hg : K3 M M := K3.rf
  obtain ⟨_, hw, h⟩ := bnd h
  have hg := hg.trans (k3_pI (by decide) hw)
  cases h; exact hg
theorem kxJ_X11_works_442 {M : Mem} {z : Int32 × Mem} {rF : Option Nat → Int32 → Mem → Option (Int32 × Mem)} (hrK : ∀ (a0 : Option Nat) (a1 : Int32) (Ma : Mem) (w : Int32 × Mem), rF a0 a1 Ma = some w → K3 Ma w.2) {v0 : Option Nat} {v5 : Int32} {v6 : Int32} (h : J_X11_works_442 rF v0 v5 v6 M = some z) : K3 M z.2 := by
  unfold J_X11_works_442 at h
  have hg : K3 M M := K3.rf
  rcases itor h with h | h
  · exact hg.trans (kxJ_X11_works_462 hrK h)
  · obtain ⟨_, -, h⟩ := bnd h
    obtain ⟨_, -, h⟩ := bnd h
    obtain ⟨_, -, h⟩ := bnd h
    obtain ⟨_, hw, h⟩ := bnd h
    have hg := hg.trans (k3_pL hw)
    exact hg.trans (kxJ_X11_works_462 hrK h)
theorem kxJ_X11_works_22 {z : Int32 × Mem} {rF : Option Nat → Int32 → Mem → Option (Int32 × Mem)} (hrK : ∀ (a0 : Option Nat) (a1 : Int32) (Ma : Mem) (w : Int32 × Mem), rF a0 a1 Ma = some w → K3 Ma w.2) : ∀ (n : Nat) (v0 : Option Nat) (v1 : Int32) (v3 : Int32) (v4 : Int32) (v5 : Int32) (v6 : Int32) (v7 : Int32) (M : Mem), J_X11_works_22 rF n v0 v1 v3 v4 v5 v6 v7 M = some z → K3 M z.2 := by
  intro n
  induction n with
  | zero => intro v0 v1 v3 v4 v5 v6 v7 M h; exact nomatch h
  | succ n ih =>
    intro v0 v1 v3 v4 v5 v6 v7 M h
    unfold J_X11_works_22 at h
    have hg : K3 M M := K3.rf
    obtain ⟨_, -, h⟩ := bnd h
    obtain ⟨_, -, h⟩ := bnd h
    rcases itor h with h | h
    · exact hg.trans (kxJ_X11_works_442 hrK h)
    · rcases itor h with h | h
      · exact hg.trans (kxJ_X11_works_442 hrK h)
      · obtain ⟨_, -, h⟩ := bnd h
        obtain ⟨_, -, h⟩ := bnd h
        obtain ⟨_, -, h⟩ := bnd h
        obtain ⟨_, -, h⟩ := bnd h
        obtain ⟨_, -, h⟩ := bnd h
        obtain ⟨_, -, h⟩ := bnd h
        rcases itor h with h | h
        · exact hg.trans (kxJ_X11_works_98 hrK ih h)
        · rcases itor h with h | h
          · exact hg.trans (kxJ_X11_works_137 hrK ih h)
          · rcases itor h with h | h
            · exact hg.trans (kxJ_X11_works_137 hrK ih h)
            · exact hg.trans (kxJ_X11_works_98 hrK ih h)
theorem kx_X11_works {M : Mem} {z : Int32 × Mem} {rF : Option Nat → Int32 → Mem → Option (Int32 × Mem)} (hrK : ∀ (a0 : Option Nat) (a1 : Int32) (Ma : Mem) (w : Int32 × Mem), rF a0 a1 Ma = some w → K3 Ma w.2) {v0 : Option Nat} {v1 : Int32} {v2 : Int32} {v3 : Int32} (h : L_X11_works rF v0 v1 v2 v3 M = some z) : K3 M z.2 := by
  unfold L_X11_works at h
  have hg : K3 M M := K3.rf
  obtain ⟨_, -, h⟩ := bnd h
  exact hg.trans (kxJ_X11_works_22 hrK FU _ _ _ _ _ _ _ _ h)
theorem kxJ_X11_builds_19 {z : Int32 × Mem} {rF : Option Nat → Int32 → Mem → Option (Int32 × Mem)} (hrK : ∀ (a0 : Option Nat) (a1 : Int32) (Ma : Mem) (w : Int32 × Mem), rF a0 a1 Ma = some w → K3 Ma w.2) : ∀ (n : Nat) (v0 : Option Nat) (v1 : Int32) (v2 : Int32) (v3 : Int32) (v4 : Int32) (v5 : Int32) (M : Mem), J_X11_builds_19 rF n v0 v1 v2 v3 v4 v5 M = some z → K3 M z.2 := by
  intro n
  induction n with
  | zero => intro v0 v1 v2 v3 v4 v5 M h; exact nomatch h
  | succ n ih =>
    intro v0 v1 v2 v3 v4 v5 M h
    unfold J_X11_builds_19 at h
    have hg : K3 M M := K3.rf
    rcases itor h with h | h
    · cases h; exact hg
    · obtain ⟨_, -, h⟩ := bnd h
      obtain ⟨w1, hw, h⟩ := bnd h
      have hg := hg.trans (kx_X11_works hrK hw)
      rcases itor h with h | h
      · obtain ⟨_, -, h⟩ := bnd h
        obtain ⟨_, -, h⟩ := bnd h
        obtain ⟨_, hw, h⟩ := bnd h
        have hg := hg.trans (k3_uL hw)
        exact hg.trans (ih _ _ _ _ _ _ _ h)
      · cases h; exact hg
theorem kx_X11_builds {M : Mem} {z : Int32 × Mem} {rF : Option Nat → Int32 → Mem → Option (Int32 × Mem)} (hrK : ∀ (a0 : Option Nat) (a1 : Int32) (Ma : Mem) (w : Int32 × Mem), rF a0 a1 Ma = some w → K3 Ma w.2) {v0 : Option Nat} {v1 : Int32} {v2 : Int32} {v3 : Int32} (h : L_X11_builds rF v0 v1 v2 v3 M = some z) : K3 M z.2 := by
  unfold L_X11_builds at h
  have hg : K3 M M := K3.rf
  obtain ⟨_, -, h⟩ := bnd h
  obtain ⟨_, -, h⟩ := bnd h
  exact hg.trans (kxJ_X11_builds_19 hrK FU _ _ _ _ _ _ _ h)
theorem kxJ_X11_does_225 {M : Mem} {z : Int32 × Mem} {rF : Option Nat → Int32 → Mem → Option (Int32 × Mem)} (hrK : ∀ (a0 : Option Nat) (a1 : Int32) (Ma : Mem) (w : Int32 × Mem), rF a0 a1 Ma = some w → K3 Ma w.2) {k_24 : Option Nat → Int32 → Int32 → Int32 → Int32 → Int32 → Mem → Option (Int32 × Mem)} (hk_24 : ∀ (v0 : Option Nat) (v1 : Int32) (v2 : Int32) (v3 : Int32) (v4 : Int32) (v5 : Int32) (Ma : Mem), k_24 v0 v1 v2 v3 v4 v5 Ma = some z → K3 Ma z.2) {v0 : Option Nat} {v1 : Int32} {v2 : Int32} {v3 : Int32} {v4 : Int32} {v7 : Int32} (h : J_X11_does_225 rF k_24 v0 v1 v2 v3 v4 v7 M = some z) : K3 M z.2 := by
  unfold J_X11_does_225 at h
  have hg : K3 M M := K3.rf
  exact hg.trans (hk_24 _ _ _ _ _ _ _ h)
theorem kxJ_X11_does_196 {M : Mem} {z : Int32 × Mem} {rF : Option Nat → Int32 → Mem → Option (Int32 × Mem)} (hrK : ∀ (a0 : Option Nat) (a1 : Int32) (Ma : Mem) (w : Int32 × Mem), rF a0 a1 Ma = some w → K3 Ma w.2) {k_24 : Option Nat → Int32 → Int32 → Int32 → Int32 → Int32 → Mem → Option (Int32 × Mem)} (hk_24 : ∀ (v0 : Option Nat) (v1 : Int32) (v2 : Int32) (v3 : Int32) (v4 : Int32) (v5 : Int32) (Ma : Mem), k_24 v0 v1 v2 v3 v4 v5 Ma = some z → K3 Ma z.2) {v0 : Option Nat} {v1 : Int32} {v2 : Int32} {v3 : Int32} {v4 : Int32} {v6 : Int32} {v7 : Int32} (h : J_X11_does_196 rF k_24 v0 v1 v2 v3 v4 v6 v7 M = some z) : K3 M z.2 := by
  unfold J_X11_does_196 at h
  have hg : K3 M M := K3.rf
  rcases itor h with h | h
  · exact hg.trans (kxJ_X11_does_225 hrK hk_24 h)
  · rcases itor h with h | h
    · obtain ⟨_, -, h⟩ := bnd h
      obtain ⟨_, -, h⟩ := bnd h
      exact hg.trans (kxJ_X11_does_225 hrK hk_24 h)
    · cases h; exact hg
theorem kxJ_X11_does_24 {z : Int32 × Mem} {rF : Option Nat → Int32 → Mem → Option (Int32 × Mem)} (hrK : ∀ (a0 : Option Nat) (a1 : Int32) (Ma : Mem) (w : Int32 × Mem), rF a0 a1 Ma = some w → K3 Ma w.2) : ∀ (n : Nat) (v0 : Option Nat) (v1 : Int32) (v2 : Int32) (v3 : Int32) (v4 : Int32) (v5 : Int32) (M : Mem), J_X11_does_24 rF n v0 v1 v2 v3 v4 v5 M = some z → K3 M z.2 := by
  intro n
  induction n with
  | zero => intro v0 v1 v2 v3 v4 v5 M h; exact nomatch h
  | succ n ih =>
    intro v0 v1 v2 v3 v4 v5 M h
    unfold J_X11_does_24 at h
    have hg : K3 M M := K3.rf
    rcases itor h with h | h
    · cases h; exact hg
    · obtain ⟨_, -, h⟩ := bnd h
      obtain ⟨_, -, h⟩ := bnd h
      rcases itor h with h | h
      · obtain ⟨_, -, h⟩ := bnd h
        obtain ⟨_, -, h⟩ := bnd h
        obtain ⟨_, -, h⟩ := bnd h
        obtain ⟨_, -, h⟩ := bnd h
        obtain ⟨_, -, h⟩ := bnd h
        obtain ⟨w1, hw, h⟩ := bnd h
        have hg := hg.trans (kx_X11_builds hrK hw)
        exact hg.trans (kxJ_X11_does_196 hrK ih h)
      rcases itor h with h | h
      · obtain ⟨_, -, h⟩ := bnd h
        obtain ⟨_, -, h⟩ := bnd h
        obtain ⟨_, -, h⟩ := bnd h
        obtain ⟨w2, hw, h⟩ := bnd h
        have hg := hg.trans (kx_X11_works hrK hw)
        rcases itor h with h | h
        · exact hg.trans (kxJ_X11_does_196 hrK ih h)
        · obtain ⟨_, -, h⟩ := bnd h
          rcases itor h with h | h
          · exact hg.trans (kxJ_X11_does_196 hrK ih h)
          · obtain ⟨_, -, h⟩ := bnd h
            obtain ⟨_, -, h⟩ := bnd h
            exact hg.trans (kxJ_X11_does_196 hrK ih h)
      rcases itor h with h | h
      · obtain ⟨_, -, h⟩ := bnd h
        obtain ⟨_, -, h⟩ := bnd h
        obtain ⟨_, -, h⟩ := bnd h
        obtain ⟨_, hw, h⟩ := bnd h
        have hg := hg.trans (k3_uI (by decide) hw)
        exact hg.trans (kxJ_X11_does_196 hrK ih h)
      rcases itor h with h | h
      · obtain ⟨_, -, h⟩ := bnd h
        obtain ⟨_, -, h⟩ := bnd h
        exact hg.trans (kxJ_X11_does_196 hrK ih h)
      exact hg.trans (kxJ_X11_does_196 hrK ih h)
theorem kx_X11_does {M : Mem} {z : Int32 × Mem} {rF : Option Nat → Int32 → Mem → Option (Int32 × Mem)} (hrK : ∀ (a0 : Option Nat) (a1 : Int32) (Ma : Mem) (w : Int32 × Mem), rF a0 a1 Ma = some w → K3 Ma w.2) {v0 : Option Nat} {v1 : Int32} (h : L_X11_does rF v0 v1 M = some z) : K3 M z.2 := by
  unfold L_X11_does at h
  have hg : K3 M M := K3.rf
  obtain ⟨_, -, h⟩ := bnd h
  obtain ⟨_, -, h⟩ := bnd h
  exact hg.trans (kxJ_X11_does_24 hrK FU _ _ _ _ _ _ _ h)
theorem kxJ_X11_needs_147 {M : Mem} {z : Int32 × Mem} {rF : Option Nat → Int32 → Mem → Option (Int32 × Mem)} (hrK : ∀ (a0 : Option Nat) (a1 : Int32) (Ma : Mem) (w : Int32 × Mem), rF a0 a1 Ma = some w → K3 Ma w.2) {v0 : Option Nat} {v1 : Int32} {v2 : Int32} {s0 : Option Nat} {s1 : Int32} {s2 : Int32} (h : J_X11_needs_147 rF v0 v1 v2 s0 s1 s2 M = some z) : K3 M z.2 := by
  unfold J_X11_needs_147 at h
  have hg : K3 M M := K3.rf
  obtain ⟨_, hw, h⟩ := bnd h
  have hg := hg.trans (k3_uI (by decide) hw)
  obtain ⟨_, -, h⟩ := bnd h
  obtain ⟨_, hw, h⟩ := bnd h
  have hg := hg.trans (k3_uI (by decide) hw)
  cases h; exact hg
theorem kxJ_X11_needs_133 {M : Mem} {z : Int32 × Mem} {rF : Option Nat → Int32 → Mem → Option (Int32 × Mem)} (hrK : ∀ (a0 : Option Nat) (a1 : Int32) (Ma : Mem) (w : Int32 × Mem), rF a0 a1 Ma = some w → K3 Ma w.2) {v0 : Option Nat} {v1 : Int32} {v2 : Int32} (h : J_X11_needs_133 rF v0 v1 v2 M = some z) : K3 M z.2 := by
  unfold J_X11_needs_133 at h
  have hg : K3 M M := K3.rf
  obtain ⟨_, -, h⟩ := bnd h
  rcases itor h with h | h
  · exact hg.trans (kxJ_X11_needs_147 hrK h)
  · exact hg.trans (kxJ_X11_needs_147 hrK h)
theorem kxJ_X11_needs_122 {M : Mem} {z : Int32 × Mem} {rF : Option Nat → Int32 → Mem → Option (Int32 × Mem)} (hrK : ∀ (a0 : Option Nat) (a1 : Int32) (Ma : Mem) (w : Int32 × Mem), rF a0 a1 Ma = some w → K3 Ma w.2) {v0 : Option Nat} {v1 : Int32} {s0 : Int32} (h : J_X11_needs_122 rF v0 v1 s0 M = some z) : K3 M z.2 := by
  unfold J_X11_needs_122 at h
  have hg : K3 M M := K3.rf
  rcases itor h with h | h
  · exact hg.trans (kxJ_X11_needs_133 hrK h)
  · obtain ⟨_, -, h⟩ := bnd h
    obtain ⟨w1, hw, h⟩ := bnd h
    have hg := hg.trans (kx_X11_does hrK hw)
    exact hg.trans (kxJ_X11_needs_133 hrK h)
theorem kxJ_X11_needs_83 {M : Mem} {z : Int32 × Mem} {rF : Option Nat → Int32 → Mem → Option (Int32 × Mem)} (hrK : ∀ (a0 : Option Nat) (a1 : Int32) (Ma : Mem) (w : Int32 × Mem), rF a0 a1 Ma = some w → K3 Ma w.2) {v0 : Option Nat} {v1 : Int32} (h : J_X11_needs_83 rF v0 v1 M = some z) : K3 M z.2 := by
  unfold J_X11_needs_83 at h
  have hg : K3 M M := K3.rf
  obtain ⟨_, -, h⟩ := bnd h
  obtain ⟨_, hw, h⟩ := bnd h
  have hg := hg.trans (k3_pI (by decide) hw)
  obtain ⟨_, -, h⟩ := bnd h
  obtain ⟨_, -, h⟩ := bnd h
  rcases itor h with h | h
  · exact hg.trans (kxJ_X11_needs_122 hrK h)
  · obtain ⟨_, -, h⟩ := bnd h
    obtain ⟨_, -, h⟩ := bnd h
    obtain ⟨_, -, h⟩ := bnd h
    obtain ⟨w2, hw, h⟩ := bnd h
    have hg := hg.trans (hrK _ _ _ _ hw)
    exact hg.trans (kxJ_X11_needs_122 hrK h)
theorem kxB_X11_needs {M : Mem} {z : Int32 × Mem} {rF : Option Nat → Int32 → Mem → Option (Int32 × Mem)} (hrK : ∀ (a0 : Option Nat) (a1 : Int32) (Ma : Mem) (w : Int32 × Mem), rF a0 a1 Ma = some w → K3 Ma w.2) {v0 : Option Nat} {v1 : Int32} (h : B_X11_needs rF v0 v1 M = some z) : K3 M z.2 := by
  unfold B_X11_needs at h
  have hg : K3 M M := K3.rf
  obtain ⟨_, -, h⟩ := bnd h
  obtain ⟨_, -, h⟩ := bnd h
  rcases itor h with h | h
  · obtain ⟨_, -, h⟩ := bnd h
    obtain ⟨_, -, h⟩ := bnd h
    rcases itor h with h | h
    · cases h; exact hg
    · obtain ⟨_, -, h⟩ := bnd h
      obtain ⟨_, -, h⟩ := bnd h
      rcases itor h with h | h
      · obtain ⟨_, -, h⟩ := bnd h
        obtain ⟨_, -, h⟩ := bnd h
        rcases itor h with h | h
        · obtain ⟨_, -, h⟩ := bnd h
          obtain ⟨_, hw, h⟩ := bnd h
          have hg := hg.trans (k3_uI (by decide) hw)
          obtain ⟨_, -, h⟩ := bnd h
          rcases itor h with h | h
          · exact hg.trans (kxJ_X11_needs_83 hrK h)
          · obtain ⟨_, -, h⟩ := bnd h
            obtain ⟨_, -, h⟩ := bnd h
            obtain ⟨_, hw, h⟩ := bnd h
            have hg := hg.trans (k3_uI (by decide) hw)
            exact hg.trans (kxJ_X11_needs_83 hrK h)
        · cases h; exact hg
      · cases h; exact hg
  · cases h; exact hg
theorem kx_X11_needs : ∀ (n : Nat) {M : Mem} {z : Int32 × Mem} {v0 : Option Nat} {v1 : Int32} (h : L_X11_needs n v0 v1 M = some z), K3 M z.2
  | 0 => fun h => nomatch h
  | n + 1 => fun h => kxB_X11_needs (rF := L_X11_needs n) (fun _ _ _ _ h => kx_X11_needs n h) h
theorem kx_X11_need {M : Mem} {z : Int32 × Mem} {v0 : Option Nat} {v1 : Int32} (h : L_X11_need v0 v1 M = some z) : K3 M z.2 := by
  unfold L_X11_need at h
  have hg : K3 M M := K3.rf
  obtain ⟨w1, hw, h⟩ := bnd h
  have hg := hg.trans (kx_X11_isYear hw)
  rcases itor h with h | h
  · cases h; exact hg
  · obtain ⟨_, -, h⟩ := bnd h
    obtain ⟨w2, hw, h⟩ := bnd h
    have hg := hg.trans (kx_X11_needs 32 hw)
    cases h; exact hg
theorem kxJ_X11_started_21 {M : Mem} {z : Int32 × Mem} {v0 : Option Nat} {v1 : Int32} {s0 : Int32} {s1 : Int32} (h : J_X11_started_21 v0 v1 s0 s1 M = some z) : K3 M z.2 := by
  unfold J_X11_started_21 at h
  have hg : K3 M M := K3.rf
  obtain ⟨w1, hw, h⟩ := bnd h
  have hg := hg.trans (kx_X11_isIn hw)
  rcases itor h with h | h
  · cases h; exact hg
  · obtain ⟨_, -, h⟩ := bnd h
    obtain ⟨_, -, h⟩ := bnd h
    cases h; exact hg
theorem kx_X11_started {M : Mem} {z : Int32 × Mem} {v0 : Option Nat} {v1 : Int32} (h : L_X11_started v0 v1 M = some z) : K3 M z.2 := by
  unfold L_X11_started at h
  have hg : K3 M M := K3.rf
  obtain ⟨_, -, h⟩ := bnd h
  rcases itor h with h | h
  · exact hg.trans (kxJ_X11_started_21 h)
  · obtain ⟨_, -, h⟩ := bnd h
    exact hg.trans (kxJ_X11_started_21 h)
theorem kx_X11_voyage {M : Mem} {z : Int32 × Mem} {v0 : Option Nat} {v1 : Int32} {v2 : Int32} (h : L_X11_voyage v0 v1 v2 M = some z) : K3 M z.2 := by
  unfold L_X11_voyage at h
  have hg : K3 M M := K3.rf
  obtain ⟨_, -, h⟩ := bnd h
  rcases itor h with h | h
  · cases h; exact hg
  · obtain ⟨w1, hw, h⟩ := bnd h
    have hg := hg.trans (kx_X11_isIn hw)
    rcases itor h with h | h
    · cases h; exact hg
    · obtain ⟨w2, hw, h⟩ := bnd h
      have hg := hg.trans (kx_X11_isIn hw)
      rcases itor h with h | h
      · obtain ⟨_, -, h⟩ := bnd h
        obtain ⟨_, -, h⟩ := bnd h
        obtain ⟨_, hw, h⟩ := bnd h
        have hg := hg.trans (k3_uI (by decide) hw)
        obtain ⟨_, -, h⟩ := bnd h
        obtain ⟨_, -, h⟩ := bnd h
        obtain ⟨_, hw, h⟩ := bnd h
        have hg := hg.trans (k3_uI (by decide) hw)
        obtain ⟨_, -, h⟩ := bnd h
        obtain ⟨_, -, h⟩ := bnd h
        obtain ⟨_, hw, h⟩ := bnd h
        have hg := hg.trans (k3_uI (by decide) hw)
        obtain ⟨_, -, h⟩ := bnd h
        obtain ⟨_, hw, h⟩ := bnd h
        have hg := hg.trans (k3_pI (by decide) hw)
        obtain ⟨_, -, h⟩ := bnd h
        cases h; exact hg
      · cases h; exact hg
theorem kx_X11_lock {M : Mem} {z : Int32 × Mem} {v0 : Option Nat} {v1 : Int32} {v2 : Int32} {v3 : Int32} {v4 : Int32} (h : L_X11_lock v0 v1 v2 v3 v4 M = some z) : K3 M z.2 := by
  unfold L_X11_lock at h
  have hg : K3 M M := K3.rf
  obtain ⟨_, -, h⟩ := bnd h
  obtain ⟨w1, hw, h⟩ := bnd h
  have hg := hg.trans (kx_X11_isIn hw)
  rcases itor h with h | h
  · cases h; exact hg
  · obtain ⟨_, -, h⟩ := bnd h
    obtain ⟨_, -, h⟩ := bnd h
    rcases itor h with h | h
    · cases h; exact hg
    · obtain ⟨w2, hw, h⟩ := bnd h
      have hg := hg.trans (kx_X11_isIn hw)
      rcases itor h with h | h
      · cases h; exact hg
      · obtain ⟨w3, hw, h⟩ := bnd h
        have hg := hg.trans (kx_X11_isYear hw)
        rcases itor h with h | h
        · cases h; exact hg
        · rcases itor h with h | h
          · cases h; exact hg
          · rcases itor h with h | h
            · obtain ⟨_, -, h⟩ := bnd h
              obtain ⟨_, -, h⟩ := bnd h
              obtain ⟨_, -, h⟩ := bnd h
              obtain ⟨_, hw, h⟩ := bnd h
              have hg := hg.trans (k3_uI (by decide) hw)
              obtain ⟨_, -, h⟩ := bnd h
              obtain ⟨_, hw, h⟩ := bnd h
              have hg := hg.trans (k3_uI (by decide) hw)
              obtain ⟨_, -, h⟩ := bnd h
              obtain ⟨_, hw, h⟩ := bnd h
              have hg := hg.trans (k3_uI (by decide) hw)
              obtain ⟨_, -, h⟩ := bnd h
              obtain ⟨_, -, h⟩ := bnd h
              obtain ⟨_, hw, h⟩ := bnd h
              have hg := hg.trans (k3_uI (by decide) hw)
              obtain ⟨_, -, h⟩ := bnd h
              obtain ⟨_, -, h⟩ := bnd h
              cases h; exact hg
            · cases h; exact hg
theorem kxJ_X11_lined_81 {M : Mem} {z : Int32 × Mem} {v0 : Option Nat} {v1 : Int32} {v4 : Int32} (h : J_X11_lined_81 v0 v1 v4 M = some z) : K3 M z.2 := by
  unfold J_X11_lined_81 at h
  have hg : K3 M M := K3.rf
  rcases itor h with h | h
  · cases h; exact hg
  · obtain ⟨_, -, h⟩ := bnd h
    obtain ⟨_, -, h⟩ := bnd h
    rcases itor h with h | h
    · cases h; exact hg
    · obtain ⟨_, -, h⟩ := bnd h
      obtain ⟨_, -, h⟩ := bnd h
      rcases itor h with h | h
      · obtain ⟨_, -, h⟩ := bnd h
        obtain ⟨_, -, h⟩ := bnd h
        obtain ⟨_, hw, h⟩ := bnd h
        have hg := hg.trans (k3_pI (by decide) hw)
        obtain ⟨_, -, h⟩ := bnd h
        obtain ⟨_, -, h⟩ := bnd h
        obtain ⟨_, hw, h⟩ := bnd h
        have hg := hg.trans (k3_pI (by decide) hw)
        obtain ⟨_, -, h⟩ := bnd h
        obtain ⟨_, -, h⟩ := bnd h
        obtain ⟨_, -, h⟩ := bnd h
        obtain ⟨w1, hw, h⟩ := bnd h
        have hg := hg.trans (kx_X11_works (fun _ _ _ _ h => kx_X11_needs 32 h) hw)
        cases h; exact hg
      · cases h; exact hg
theorem kxJ_X11_lined_25 {z : Int32 × Mem} : ∀ (n : Nat) (v0 : Option Nat) (v1 : Int32) (v4 : Int32) (v5 : Int32) (M : Mem), J_X11_lined_25 n v0 v1 v4 v5 M = some z → K3 M z.2 := by
  intro n
  induction n with
  | zero => intro v0 v1 v4 v5 M h; exact nomatch h
  | succ n ih =>
    intro v0 v1 v4 v5 M h
    unfold J_X11_lined_25 at h
    have hg : K3 M M := K3.rf
    rcases itor h with h | h
    · exact hg.trans (kxJ_X11_lined_81 h)
    · rcases itor h with h | h
      · exact hg.trans (kxJ_X11_lined_81 h)
      · obtain ⟨_, -, h⟩ := bnd h
        obtain ⟨_, -, h⟩ := bnd h
        rcases itor h with h | h
        · exact hg.trans (kxJ_X11_lined_81 h)
        · obtain ⟨_, -, h⟩ := bnd h
          obtain ⟨_, -, h⟩ := bnd h
          rcases itor h with h | h
          · exact hg.trans (kxJ_X11_lined_81 h)
          · obtain ⟨_, -, h⟩ := bnd h
            obtain ⟨_, -, h⟩ := bnd h
            exact hg.trans (ih _ _ _ _ _ h)
theorem kx_X11_lined {M : Mem} {z : Int32 × Mem} {v0 : Option Nat} {v1 : Int32} (h : L_X11_lined v0 v1 M = some z) : K3 M z.2 := by
  unfold L_X11_lined at h
  have hg : K3 M M := K3.rf
  obtain ⟨_, -, h⟩ := bnd h
  obtain ⟨_, -, h⟩ := bnd h
  obtain ⟨_, -, h⟩ := bnd h
  obtain ⟨w2, hw, h⟩ := bnd h
  have hg := hg.trans (kx_X11_needs 32 hw)
  rcases itor h with h | h
  · exact hg.trans (kxJ_X11_lined_25 FU _ _ _ _ _ h)
  · cases h; exact hg
theorem kxJ_X11_bill_54 {z : Int32 × Mem} : ∀ (n : Nat) (v0 : Option Nat) (v1 : Int32) (v2 : Int64) (v4 : Int32) (M : Mem), J_X11_bill_54 n v0 v1 v2 v4 M = some z → K3 M z.2 := by
  intro n
  induction n with
  | zero => intro v0 v1 v2 v4 M h; exact nomatch h
  | succ n ih =>
    intro v0 v1 v2 v4 M h
    unfold J_X11_bill_54 at h
    have hg : K3 M M := K3.rf
    obtain ⟨_, -, h⟩ := bnd h
    obtain ⟨_, -, h⟩ := bnd h
    rcases itor h with h | h
    · obtain ⟨_, -, h⟩ := bnd h
      obtain ⟨_, hw, h⟩ := bnd h
      have hg := hg.trans (k3_uL hw)
      obtain ⟨_, -, h⟩ := bnd h
      obtain ⟨_, -, h⟩ := bnd h
      obtain ⟨_, -, h⟩ := bnd h
      obtain ⟨_, hw, h⟩ := bnd h
      have hg := hg.trans (k3_uI (by decide) hw)
      obtain ⟨_, -, h⟩ := bnd h
      obtain ⟨_, hw, h⟩ := bnd h
      have hg := hg.trans (k3_pI (by decide) hw)
      cases h; exact hg
    · obtain ⟨_, -, h⟩ := bnd h
      obtain ⟨w1, hw, h⟩ := bnd h
      have hg := hg.trans (kx_X11_lined hw)
      rcases itor h with h | h
      · obtain ⟨_, -, h⟩ := bnd h
        obtain ⟨_, -, h⟩ := bnd h
        obtain ⟨_, hw, h⟩ := bnd h
        have hg := hg.trans (k3_uL hw)
        obtain ⟨_, -, h⟩ := bnd h
        exact hg.trans (ih _ _ _ _ _ h)
      · obtain ⟨_, -, h⟩ := bnd h
        obtain ⟨_, hw, h⟩ := bnd h
        have hg := hg.trans (k3_pI (by decide) hw)
        cases h; exact hg
theorem kx_X11_bill {M : Mem} {z : Int32 × Mem} {v0 : Option Nat} {v1 : Int32} (h : L_X11_bill v0 v1 M = some z) : K3 M z.2 := by
  unfold L_X11_bill at h
  have hg : K3 M M := K3.rf
  obtain ⟨_, -, h⟩ := bnd h
  obtain ⟨w2, hw, h⟩ := bnd h
  have hg := hg.trans (kx_X11_isIn hw)
  rcases itor h with h | h
  · cases h; exact hg
  · obtain ⟨_, -, h⟩ := bnd h
    obtain ⟨_, -, h⟩ := bnd h
    rcases itor h with h | h
    · obtain ⟨_, -, h⟩ := bnd h
      obtain ⟨_, -, h⟩ := bnd h
      obtain ⟨_, hw, h⟩ := bnd h
      have hg := hg.trans (k3_pI (by decide) hw)
      obtain ⟨_, -, h⟩ := bnd h
      obtain ⟨_, -, h⟩ := bnd h
      obtain ⟨_, hw, h⟩ := bnd h
      have hg := hg.trans (k3_pI (by decide) hw)
      obtain ⟨_, -, h⟩ := bnd h
      obtain ⟨_, hw, h⟩ := bnd h
      have hg := hg.trans (k3_uI (by decide) hw)
      exact hg.trans (kxJ_X11_bill_54 FU _ _ _ _ _ h)
    · cases h; exact hg
theorem kx_X11_line {M : Mem} {z : Int64 × Mem} {v0 : Option Nat} {v1 : Int32} {v2 : Int32} (h : L_X11_line v0 v1 v2 M = some z) : K3 M z.2 := by
  unfold L_X11_line at h
  have hg : K3 M M := K3.rf
  obtain ⟨_, -, h⟩ := bnd h
  obtain ⟨w1, hw, h⟩ := bnd h
  have hg := hg.trans (kx_X11_isIn hw)
  rcases itor h with h | h
  · cases h; exact hg
  · obtain ⟨_, -, h⟩ := bnd h
    obtain ⟨_, -, h⟩ := bnd h
    rcases itor h with h | h
    · cases h; exact hg
    · rcases itor h with h | h
      · cases h; exact hg
      · obtain ⟨_, -, h⟩ := bnd h
        obtain ⟨_, -, h⟩ := bnd h
        rcases itor h with h | h
        · rcases itor h with h | h
          · obtain ⟨_, -, h⟩ := bnd h
            obtain ⟨_, -, h⟩ := bnd h
            cases h; exact hg
          · obtain ⟨_, -, h⟩ := bnd h
            obtain ⟨_, -, h⟩ := bnd h
            cases h; exact hg
        · cases h; exact hg
theorem kx_X11_count {M : Mem} {z : Int32 × Mem} {v0 : Option Nat} {v1 : Int32} (h : L_X11_count v0 v1 M = some z) : K3 M z.2 := by
  unfold L_X11_count at h
  have hg : K3 M M := K3.rf
  rcases itor h with h | h
  · obtain ⟨_, -, h⟩ := bnd h
    cases h; exact hg
  rcases itor h with h | h
  · obtain ⟨_, -, h⟩ := bnd h
    cases h; exact hg
  rcases itor h with h | h
  · obtain ⟨_, -, h⟩ := bnd h
    cases h; exact hg
  rcases itor h with h | h
  · obtain ⟨_, -, h⟩ := bnd h
    cases h; exact hg
  rcases itor h with h | h
  · obtain ⟨_, -, h⟩ := bnd h
    cases h; exact hg
  cases h; exact hg


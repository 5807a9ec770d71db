-- ===== a class is made: the reference's slots =====
theorem cp_86 {y : Nat} (hy : y < 30) : ∀ {j q F : Nat} {B : Mem}, q + j = 8 → j < F → ∃ B', SJ_X11_copies_86 F (ni y) (ni (30 + y)) (ni q) B = SJ_X11_copies_144 FU (ni y) (ni (30 + y)) 0 B' ∧ FrW (fun a i => (a = 198 ∨ a = 199) ∧ 8 * (30 + y) + q ≤ i ∧ i < 8 * (30 + y) + 8) B B' ∧ ∀ i, q ≤ i → i < 8 → gl B' 198 (8 * (30 + y) + i) = gl B 198 (8 * y + i) ∧ gi B' 199 (8 * (30 + y) + i) = gi B 199 (8 * y + i) := by
  intro j
  induction j with
  | zero =>
    intro q F B hj hF
    obtain ⟨F, rfl⟩ : ∃ u, F = u + 1 := ⟨F - 1, by omega⟩
    rw [SJ_X11_copies_86]; dsimp only
    rw [if_pos (show (8 : Int32) ≤ ni q from (ni_le (a := 8) (by omega) (by omega)).mpr (by omega))]
    exact ⟨B, rfl, FrW.rf, fun i h1 h2 => by omega⟩
  | succ j ih =>
    intro q F B hj hF
    obtain ⟨F, rfl⟩ : ∃ u, F = u + 1 := ⟨F - 1, by omega⟩
    have hI : (8 : Int32) * ni (30 + y) + ni q = ni (8 * (30 + y) + q) := by rw [show (8 : Int32) = ni 8 from rfl, ni_mul, ni_add]
    have hJ : (8 : Int32) * ni y + ni q = ni (8 * y + q) := by rw [show (8 : Int32) = ni 8 from rfl, ni_mul, ni_add]
    have f1 : FrW (fun a i => (a = 198 ∨ a = 199) ∧ i = 8 * (30 + y) + q) B (si (sl B 198 (8 * (30 + y) + q) (gl B 198 (8 * y + q))) 199 (8 * (30 + y) + q) (gi B 199 (8 * y + q))) := FrW.tr frw_sl frw_si (fun a i u => by omega)
    rw [SJ_X11_copies_86]; dsimp only
    rw [if_neg (show ¬ (8 : Int32) ≤ ni q from fun e => by have := (ni_le (a := 8) (by omega) (by omega)).mp e; omega), hI, hJ, gdT ((ni_inb (by omega)).mpr (by omega)), gdT ((ni_inb (by omega)).mpr (by omega)), gdT ((ni_inb (by omega)).mpr (by omega)), gdT ((ni_inb (by omega)).mpr (by omega)), ni_tn (a := 8 * (30 + y) + q) (by omega), ni_tn (a := 8 * y + q) (by omega), (show gi (sl B 198 (8 * (30 + y) + q) (gl B 198 (8 * y + q))) 199 (8 * y + q) = gi B 199 (8 * y + q) by repeat first | rw [gi_sl] | rw [gi_ne (by omega)]), show ni q + 1 = ni (q + 1) from ni_add q 1]
    obtain ⟨B', g1, g2, g3⟩ := ih (q := q + 1) (F := F) (B := si (sl B 198 (8 * (30 + y) + q) (gl B 198 (8 * y + q))) 199 (8 * (30 + y) + q) (gi B 199 (8 * y + q))) (by omega) (by omega)
    refine ⟨B', g1, f1.tr g2 (fun a i u => by omega), fun i h1 h2 => ?_⟩
    by_cases e : i = q
    · subst e
      refine ⟨?_, ?_⟩
      · rw [(g2.2 198 _ (by omega)).2, gl_si, sl_eq]
      · rw [(g2.2 199 _ (by omega)).1, si_eq]
    · have q3 := g3 i (by omega) h2
      refine ⟨q3.1.trans (f1.2 198 (8 * y + i) (by omega)).2, q3.2.trans (f1.2 199 (8 * y + i) (by omega)).1⟩
theorem cp_144 {y : Nat} (hy : y < 30) : ∀ {j q F : Nat} {B : Mem}, q + j = 6 → j < F → ∃ B', SJ_X11_copies_144 F (ni y) (ni (30 + y)) (ni q) B = SJ_X11_copies_202 FU (ni y) (ni (30 + y)) 0 B' ∧ FrW (fun a i => (a = 201 ∨ a = 202) ∧ 6 * (30 + y) + q ≤ i ∧ i < 6 * (30 + y) + 6) B B' ∧ ∀ i, q ≤ i → i < 6 → gl B' 201 (6 * (30 + y) + i) = gl B 201 (6 * y + i) ∧ gi B' 202 (6 * (30 + y) + i) = gi B 202 (6 * y + i) := by
  intro j
  induction j with
  | zero =>
    intro q F B hj hF
    obtain ⟨F, rfl⟩ : ∃ u, F = u + 1 := ⟨F - 1, by omega⟩
    rw [SJ_X11_copies_144]; dsimp only
    rw [if_pos (show (6 : Int32) ≤ ni q from (ni_le (a := 6) (by omega) (by omega)).mpr (by omega))]
    exact ⟨B, rfl, FrW.rf, fun i h1 h2 => by omega⟩
  | succ j ih =>
    intro q F B hj hF
    obtain ⟨F, rfl⟩ : ∃ u, F = u + 1 := ⟨F - 1, by omega⟩
    have hI : (6 : Int32) * ni (30 + y) + ni q = ni (6 * (30 + y) + q) := by rw [show (6 : Int32) = ni 6 from rfl, ni_mul, ni_add]
    have hJ : (6 : Int32) * ni y + ni q = ni (6 * y + q) := by rw [show (6 : Int32) = ni 6 from rfl, ni_mul, ni_add]
    have f1 : FrW (fun a i => (a = 201 ∨ a = 202) ∧ i = 6 * (30 + y) + q) B (si (sl B 201 (6 * (30 + y) + q) (gl B 201 (6 * y + q))) 202 (6 * (30 + y) + q) (gi B 202 (6 * y + q))) := FrW.tr frw_sl frw_si (fun a i u => by omega)
    rw [SJ_X11_copies_144]; dsimp only
    rw [if_neg (show ¬ (6 : Int32) ≤ ni q from fun e => by have := (ni_le (a := 6) (by omega) (by omega)).mp e; omega), hI, hJ, gdT ((ni_inb (by omega)).mpr (by omega)), gdT ((ni_inb (by omega)).mpr (by omega)), gdT ((ni_inb (by omega)).mpr (by omega)), gdT ((ni_inb (by omega)).mpr (by omega)), ni_tn (a := 6 * (30 + y) + q) (by omega), ni_tn (a := 6 * y + q) (by omega), (show gi (sl B 201 (6 * (30 + y) + q) (gl B 201 (6 * y + q))) 202 (6 * y + q) = gi B 202 (6 * y + q) by repeat first | rw [gi_sl] | rw [gi_ne (by omega)]), show ni q + 1 = ni (q + 1) from ni_add q 1]
    obtain ⟨B', g1, g2, g3⟩ := ih (q := q + 1) (F := F) (B := si (sl B 201 (6 * (30 + y) + q) (gl B 201 (6 * y + q))) 202 (6 * (30 + y) + q) (gi B 202 (6 * y + q))) (by omega) (by omega)
    refine ⟨B', g1, f1.tr g2 (fun a i u => by omega), fun i h1 h2 => ?_⟩
    by_cases e : i = q
    · subst e
      refine ⟨?_, ?_⟩
      · rw [(g2.2 201 _ (by omega)).2, gl_si, sl_eq]
      · rw [(g2.2 202 _ (by omega)).1, si_eq]
    · have q3 := g3 i (by omega) h2
      refine ⟨q3.1.trans (f1.2 201 (6 * y + i) (by omega)).2, q3.2.trans (f1.2 202 (6 * y + i) (by omega)).1⟩
theorem cp_202 {y : Nat} (hy : y < 30) : ∀ {j q F : Nat} {B : Mem}, q + j = 120 → j < F → ∃ B', SJ_X11_copies_202 F (ni y) (ni (30 + y)) (ni q) B = SJ_X11_copies_282 FU (ni y) (ni (30 + y)) 0 B' ∧ FrW (fun a i => (a = 204 ∨ a = 205 ∨ a = 206) ∧ 120 * (30 + y) + q ≤ i ∧ i < 120 * (30 + y) + 120) B B' ∧ ∀ i, q ≤ i → i < 120 → gi B' 204 (120 * (30 + y) + i) = gi B 204 (120 * y + i) ∧ gi B' 205 (120 * (30 + y) + i) = gi B 205 (120 * y + i) ∧ gi B' 206 (120 * (30 + y) + i) = gi B 206 (120 * y + i) := by
  intro j
  induction j with
  | zero =>
    intro q F B hj hF
    obtain ⟨F, rfl⟩ : ∃ u, F = u + 1 := ⟨F - 1, by omega⟩
    rw [SJ_X11_copies_202]; dsimp only
    rw [if_pos (show (120 : Int32) ≤ ni q from (ni_le (a := 120) (by omega) (by omega)).mpr (by omega))]
    exact ⟨B, rfl, FrW.rf, fun i h1 h2 => by omega⟩
  | succ j ih =>
    intro q F B hj hF
    obtain ⟨F, rfl⟩ : ∃ u, F = u + 1 := ⟨F - 1, by omega⟩
    have hI : (120 : Int32) * ni (30 + y) + ni q = ni (120 * (30 + y) + q) := by rw [show (120 : Int32) = ni 120 from rfl, ni_mul, ni_add]
    have hJ : (120 : Int32) * ni y + ni q = ni (120 * y + q) := by rw [show (120 : Int32) = ni 120 from rfl, ni_mul, ni_add]
    have f1 : FrW (fun a i => (a = 204 ∨ a = 205 ∨ a = 206) ∧ i = 120 * (30 + y) + q) B (si (si (si B 204 (120 * (30 + y) + q) (gi B 204 (120 * y + q))) 205 (120 * (30 + y) + q) (gi B 205 (120 * y + q))) 206 (120 * (30 + y) + q) (gi B 206 (120 * y + q))) := FrW.tr (FrW.tr frw_si frw_si (U := fun a i => (a = 204 ∨ a = 205) ∧ i = 120 * (30 + y) + q) (fun a i u => by omega)) frw_si (fun a i u => by omega)
    rw [SJ_X11_copies_202]; dsimp only
    rw [if_neg (show ¬ (120 : Int32) ≤ ni q from fun e => by have := (ni_le (a := 120) (by omega) (by omega)).mp e; omega), hI, hJ, gdT ((ni_inb (by omega)).mpr (by omega)), gdT ((ni_inb (by omega)).mpr (by omega)), gdT ((ni_inb (by omega)).mpr (by omega)), gdT ((ni_inb (by omega)).mpr (by omega)), gdT ((ni_inb (by omega)).mpr (by omega)), gdT ((ni_inb (by omega)).mpr (by omega)), ni_tn (a := 120 * (30 + y) + q) (by omega), ni_tn (a := 120 * y + q) (by omega), (show gi (si B 204 (120 * (30 + y) + q) (gi B 204 (120 * y + q))) 205 (120 * y + q) = gi B 205 (120 * y + q) by repeat first | rw [gi_sl] | rw [gi_ne (by omega)]), (show gi (si (si B 204 (120 * (30 + y) + q) (gi B 204 (120 * y + q))) 205 (120 * (30 + y) + q) (gi B 205 (120 * y + q))) 206 (120 * y + q) = gi B 206 (120 * y + q) by repeat first | rw [gi_sl] | rw [gi_ne (by omega)]), show ni q + 1 = ni (q + 1) from ni_add q 1]
    obtain ⟨B', g1, g2, g3⟩ := ih (q := q + 1) (F := F) (B := si (si (si B 204 (120 * (30 + y) + q) (gi B 204 (120 * y + q))) 205 (120 * (30 + y) + q) (gi B 205 (120 * y + q))) 206 (120 * (30 + y) + q) (gi B 206 (120 * y + q))) (by omega) (by omega)
    refine ⟨B', g1, f1.tr g2 (fun a i u => by omega), fun i h1 h2 => ?_⟩
    by_cases e : i = q
    · subst e
      refine ⟨?_, ?_, ?_⟩
      · rw [(g2.2 204 _ (by omega)).1, gi_ne (by omega), gi_ne (by omega), si_eq]
      · rw [(g2.2 205 _ (by omega)).1, gi_ne (by omega), si_eq]
      · rw [(g2.2 206 _ (by omega)).1, si_eq]
    · have q3 := g3 i (by omega) h2
      refine ⟨q3.1.trans (f1.2 204 (120 * y + i) (by omega)).1, q3.2.1.trans (f1.2 205 (120 * y + i) (by omega)).1, q3.2.2.trans (f1.2 206 (120 * y + i) (by omega)).1⟩
theorem cp_282 {y : Nat} (hy : y < 30) : ∀ {j q F : Nat} {B : Mem}, q + j = 1200 → j < F → ∃ B', SJ_X11_copies_282 F (ni y) (ni (30 + y)) (ni q) B = some ((), B') ∧ FrW (fun a i => (a = 208 ∨ a = 209 ∨ a = 210) ∧ 1200 * (30 + y) + q ≤ i ∧ i < 1200 * (30 + y) + 1200) B B' ∧ ∀ i, q ≤ i → i < 1200 → gi B' 208 (1200 * (30 + y) + i) = gi B 208 (1200 * y + i) ∧ gl B' 209 (1200 * (30 + y) + i) = gl B 209 (1200 * y + i) ∧ gi B' 210 (1200 * (30 + y) + i) = gi B 210 (1200 * y + i) := by
  intro j
  induction j with
  | zero =>
    intro q F B hj hF
    obtain ⟨F, rfl⟩ : ∃ u, F = u + 1 := ⟨F - 1, by omega⟩
    rw [SJ_X11_copies_282]; dsimp only
    rw [if_pos (show (1200 : Int32) ≤ ni q from (ni_le (a := 1200) (by omega) (by omega)).mpr (by omega))]
    exact ⟨B, rfl, FrW.rf, fun i h1 h2 => by omega⟩
  | succ j ih =>
    intro q F B hj hF
    obtain ⟨F, rfl⟩ : ∃ u, F = u + 1 := ⟨F - 1, by omega⟩
    have hI : (1200 : Int32) * ni (30 + y) + ni q = ni (1200 * (30 + y) + q) := by rw [show (1200 : Int32) = ni 1200 from rfl, ni_mul, ni_add]
    have hJ : (1200 : Int32) * ni y + ni q = ni (1200 * y + q) := by rw [show (1200 : Int32) = ni 1200 from rfl, ni_mul, ni_add]
    have f1 : FrW (fun a i => (a = 208 ∨ a = 209 ∨ a = 210) ∧ i = 1200 * (30 + y) + q) B (si (sl (si B 208 (1200 * (30 + y) + q) (gi B 208 (1200 * y + q))) 209 (1200 * (30 + y) + q) (gl B 209 (1200 * y + q))) 210 (1200 * (30 + y) + q) (gi B 210 (1200 * y + q))) := FrW.tr (FrW.tr frw_si frw_sl (U := fun a i => (a = 208 ∨ a = 209) ∧ i = 1200 * (30 + y) + q) (fun a i u => by omega)) frw_si (fun a i u => by omega)
    rw [SJ_X11_copies_282]; dsimp only
    rw [if_neg (show ¬ (1200 : Int32) ≤ ni q from fun e => by have := (ni_le (a := 1200) (by omega) (by omega)).mp e; omega), hI, hJ, gdT ((ni_inb (by omega)).mpr (by omega)), gdT ((ni_inb (by omega)).mpr (by omega)), gdT ((ni_inb (by omega)).mpr (by omega)), gdT ((ni_inb (by omega)).mpr (by omega)), gdT ((ni_inb (by omega)).mpr (by omega)), gdT ((ni_inb (by omega)).mpr (by omega)), ni_tn (a := 1200 * (30 + y) + q) (by omega), ni_tn (a := 1200 * y + q) (by omega), (show gl (si B 208 (1200 * (30 + y) + q) (gi B 208 (1200 * y + q))) 209 (1200 * y + q) = gl B 209 (1200 * y + q) by rfl), (show gi (sl (si B 208 (1200 * (30 + y) + q) (gi B 208 (1200 * y + q))) 209 (1200 * (30 + y) + q) (gl B 209 (1200 * y + q))) 210 (1200 * y + q) = gi B 210 (1200 * y + q) by repeat first | rw [gi_sl] | rw [gi_ne (by omega)]), show ni q + 1 = ni (q + 1) from ni_add q 1]
    obtain ⟨B', g1, g2, g3⟩ := ih (q := q + 1) (F := F) (B := si (sl (si B 208 (1200 * (30 + y) + q) (gi B 208 (1200 * y + q))) 209 (1200 * (30 + y) + q) (gl B 209 (1200 * y + q))) 210 (1200 * (30 + y) + q) (gi B 210 (1200 * y + q))) (by omega) (by omega)
    refine ⟨B', g1, f1.tr g2 (fun a i u => by omega), fun i h1 h2 => ?_⟩
    by_cases e : i = q
    · subst e
      refine ⟨?_, ?_, ?_⟩
      · rw [(g2.2 208 _ (by omega)).1, gi_ne (by omega), gi_sl, si_eq]
      · rw [(g2.2 209 _ (by omega)).2, gl_si, sl_eq]
      · rw [(g2.2 210 _ (by omega)).1, si_eq]
    · have q3 := g3 i (by omega) h2
      refine ⟨q3.1.trans (f1.2 208 (1200 * y + i) (by omega)).1, q3.2.1.trans (f1.2 209 (1200 * y + i) (by omega)).2, q3.2.2.trans (f1.2 210 (1200 * y + i) (by omega)).1⟩
theorem copies_ok {B : Mem} {y : Nat} (hy : y < 30) : ∃ B', S_X11_copies (ni y) B = some ((), B') ∧ FrW (Slt (30 + y)) B B' ∧ gi B' 194 (30 + y) = 1 ∧ (gi B' 195 (30 + y) = gi B 195 y ∧ gi B' 196 (30 + y) = gi B 196 y ∧ gi B' 207 (30 + y) = gi B 207 y ∧ gi B' 203 (30 + y) = gi B 203 y ∧ gi B' 197 (30 + y) = gi B 197 y ∧ gi B' 200 (30 + y) = gi B 200 y) ∧ RvE (svR B y) (svR B' (30 + y)) := by
  have f0 : FrW (fun a i => (a = 194 ∨ a = 195 ∨ a = 196 ∨ a = 197 ∨ a = 200 ∨ a = 203 ∨ a = 207) ∧ i = 30 + y) B (si (si (si (si (si (si (si B 194 (30 + y) 1) 195 (30 + y) (gi B 195 y)) 196 (30 + y) (gi B 196 y)) 197 (30 + y) (gi B 197 y)) 200 (30 + y) (gi B 200 y)) 203 (30 + y) (gi B 203 y)) 207 (30 + y) (gi B 207 y)) := FrW.tr (FrW.tr (FrW.tr (FrW.tr (FrW.tr (FrW.tr (frw_si) frw_si (U := fun a i => (a = 194 ∨ a = 195) ∧ i = 30 + y) (fun a i u => by omega)) frw_si (U := fun a i => (a = 194 ∨ a = 195 ∨ a = 196) ∧ i = 30 + y) (fun a i u => by omega)) frw_si (U := fun a i => (a = 194 ∨ a = 195 ∨ a = 196 ∨ a = 197) ∧ i = 30 + y) (fun a i u => by omega)) frw_si (U := fun a i => (a = 194 ∨ a = 195 ∨ a = 196 ∨ a = 197 ∨ a = 200) ∧ i = 30 + y) (fun a i u => by omega)) frw_si (U := fun a i => (a = 194 ∨ a = 195 ∨ a = 196 ∨ a = 197 ∨ a = 200 ∨ a = 203) ∧ i = 30 + y) (fun a i u => by omega)) frw_si (U := fun a i => (a = 194 ∨ a = 195 ∨ a = 196 ∨ a = 197 ∨ a = 200 ∨ a = 203 ∨ a = 207) ∧ i = 30 + y) (fun a i u => by omega)
  have v0 : gi (si (si (si (si (si (si (si B 194 (30 + y) 1) 195 (30 + y) (gi B 195 y)) 196 (30 + y) (gi B 196 y)) 197 (30 + y) (gi B 197 y)) 200 (30 + y) (gi B 200 y)) 203 (30 + y) (gi B 203 y)) 207 (30 + y) (gi B 207 y)) 194 (30 + y) = 1 ∧ gi (si (si (si (si (si (si (si B 194 (30 + y) 1) 195 (30 + y) (gi B 195 y)) 196 (30 + y) (gi B 196 y)) 197 (30 + y) (gi B 197 y)) 200 (30 + y) (gi B 200 y)) 203 (30 + y) (gi B 203 y)) 207 (30 + y) (gi B 207 y)) 195 (30 + y) = gi B 195 y ∧ gi (si (si (si (si (si (si (si B 194 (30 + y) 1) 195 (30 + y) (gi B 195 y)) 196 (30 + y) (gi B 196 y)) 197 (30 + y) (gi B 197 y)) 200 (30 + y) (gi B 200 y)) 203 (30 + y) (gi B 203 y)) 207 (30 + y) (gi B 207 y)) 196 (30 + y) = gi B 196 y ∧ gi (si (si (si (si (si (si (si B 194 (30 + y) 1) 195 (30 + y) (gi B 195 y)) 196 (30 + y) (gi B 196 y)) 197 (30 + y) (gi B 197 y)) 200 (30 + y) (gi B 200 y)) 203 (30 + y) (gi B 203 y)) 207 (30 + y) (gi B 207 y)) 197 (30 + y) = gi B 197 y ∧ gi (si (si (si (si (si (si (si B 194 (30 + y) 1) 195 (30 + y) (gi B 195 y)) 196 (30 + y) (gi B 196 y)) 197 (30 + y) (gi B 197 y)) 200 (30 + y) (gi B 200 y)) 203 (30 + y) (gi B 203 y)) 207 (30 + y) (gi B 207 y)) 200 (30 + y) = gi B 200 y ∧ gi (si (si (si (si (si (si (si B 194 (30 + y) 1) 195 (30 + y) (gi B 195 y)) 196 (30 + y) (gi B 196 y)) 197 (30 + y) (gi B 197 y)) 200 (30 + y) (gi B 200 y)) 203 (30 + y) (gi B 203 y)) 207 (30 + y) (gi B 207 y)) 203 (30 + y) = gi B 203 y ∧ gi (si (si (si (si (si (si (si B 194 (30 + y) 1) 195 (30 + y) (gi B 195 y)) 196 (30 + y) (gi B 196 y)) 197 (30 + y) (gi B 197 y)) 200 (30 + y) (gi B 200 y)) 203 (30 + y) (gi B 203 y)) 207 (30 + y) (gi B 207 y)) 207 (30 + y) = gi B 207 y := by
    refine ⟨?_, ?_, ?_, ?_, ?_, ?_, ?_⟩
    · rw [gi_ne (by omega), gi_ne (by omega), gi_ne (by omega), gi_ne (by omega), gi_ne (by omega), gi_ne (by omega), si_eq]
    · rw [gi_ne (by omega), gi_ne (by omega), gi_ne (by omega), gi_ne (by omega), gi_ne (by omega), si_eq]
    · rw [gi_ne (by omega), gi_ne (by omega), gi_ne (by omega), gi_ne (by omega), si_eq]
    · rw [gi_ne (by omega), gi_ne (by omega), gi_ne (by omega), si_eq]
    · rw [gi_ne (by omega), gi_ne (by omega), si_eq]
    · rw [gi_ne (by omega), si_eq]
    · rw [si_eq]
  unfold S_X11_copies
  rw [show (30 : Int32) + ni y = ni (30 + y) from ni_add 30 y, gdT ((ni_inb (by omega)).mpr (by omega)), gdT ((ni_inb (by omega)).mpr (by omega)), gdT ((ni_inb (by omega)).mpr (by omega)), gdT ((ni_inb (by omega)).mpr (by omega)), gdT ((ni_inb (by omega)).mpr (by omega)), gdT ((ni_inb (by omega)).mpr (by omega)), gdT ((ni_inb (by omega)).mpr (by omega)), gdT ((ni_inb (by omega)).mpr (by omega)), gdT ((ni_inb (by omega)).mpr (by omega)), gdT ((ni_inb (by omega)).mpr (by omega)), gdT ((ni_inb (by omega)).mpr (by omega)), gdT ((ni_inb (by omega)).mpr (by omega)), gdT ((ni_inb (by omega)).mpr (by omega)), ni_tn (a := 30 + y) (by omega), ni_tn (a := y) (by omega), nar1, show gi (si B 194 (30 + y) 1) 195 y = gi B 195 y by repeat rw [gi_ne (by omega)], show gi (si (si B 194 (30 + y) 1) 195 (30 + y) (gi B 195 y)) 196 y = gi B 196 y by repeat rw [gi_ne (by omega)], show gi (si (si (si B 194 (30 + y) 1) 195 (30 + y) (gi B 195 y)) 196 (30 + y) (gi B 196 y)) 197 y = gi B 197 y by repeat rw [gi_ne (by omega)], show gi (si (si (si (si B 194 (30 + y) 1) 195 (30 + y) (gi B 195 y)) 196 (30 + y) (gi B 196 y)) 197 (30 + y) (gi B 197 y)) 200 y = gi B 200 y by repeat rw [gi_ne (by omega)], show gi (si (si (si (si (si B 194 (30 + y) 1) 195 (30 + y) (gi B 195 y)) 196 (30 + y) (gi B 196 y)) 197 (30 + y) (gi B 197 y)) 200 (30 + y) (gi B 200 y)) 203 y = gi B 203 y by repeat rw [gi_ne (by omega)], show gi (si (si (si (si (si (si B 194 (30 + y) 1) 195 (30 + y) (gi B 195 y)) 196 (30 + y) (gi B 196 y)) 197 (30 + y) (gi B 197 y)) 200 (30 + y) (gi B 200 y)) 203 (30 + y) (gi B 203 y)) 207 y = gi B 207 y by repeat rw [gi_ne (by omega)]]
  generalize si (si (si (si (si (si (si B 194 (30 + y) 1) 195 (30 + y) (gi B 195 y)) 196 (30 + y) (gi B 196 y)) 197 (30 + y) (gi B 197 y)) 200 (30 + y) (gi B 200 y)) 203 (30 + y) (gi B 203 y)) 207 (30 + y) (gi B 207 y) = B0 at *
  obtain ⟨B1, a1, a2, a3⟩ := cp_86 hy (j := 8) (q := 0) (F := FU) (B := B0) (by omega) (by have : FU = 4000000 := rfl; omega)
  have a1 : SJ_X11_copies_86 FU (ni y) (ni (30 + y)) 0 B0 = SJ_X11_copies_144 FU (ni y) (ni (30 + y)) 0 B1 := a1
  obtain ⟨B2, b1, b2, b3⟩ := cp_144 hy (j := 6) (q := 0) (F := FU) (B := B1) (by omega) (by have : FU = 4000000 := rfl; omega)
  have b1 : SJ_X11_copies_144 FU (ni y) (ni (30 + y)) 0 B1 = SJ_X11_copies_202 FU (ni y) (ni (30 + y)) 0 B2 := b1
  obtain ⟨B3, c1, c2, c3⟩ := cp_202 hy (j := 120) (q := 0) (F := FU) (B := B2) (by omega) (by have : FU = 4000000 := rfl; omega)
  have c1 : SJ_X11_copies_202 FU (ni y) (ni (30 + y)) 0 B2 = SJ_X11_copies_282 FU (ni y) (ni (30 + y)) 0 B3 := c1
  obtain ⟨B4, d1, d2, d3⟩ := cp_282 hy (j := 1200) (q := 0) (F := FU) (B := B3) (by omega) (by have : FU = 4000000 := rfl; omega)
  have d1 : SJ_X11_copies_282 FU (ni y) (ni (30 + y)) 0 B3 = some ((), B4) := d1
  rw [a1, b1, c1, d1]
  have t1 : FrW (Slt (30 + y)) B B4 := (((f0.tr a2 (U := Slt (30 + y)) (fun a i u => by unfold Slt at u; omega)).tr b2 (U := Slt (30 + y)) (fun a i u => by refine ⟨u, ?_⟩; unfold Slt at u; omega)).tr c2 (U := Slt (30 + y)) (fun a i u => by refine ⟨u, ?_⟩; unfold Slt at u; omega)).tr d2 (U := Slt (30 + y)) (fun a i u => by refine ⟨u, ?_⟩; unfold Slt at u; omega)
  have g : ∀ a, (a = 194 ∨ a = 195 ∨ a = 196 ∨ a = 197 ∨ a = 200 ∨ a = 203 ∨ a = 207) → gi B4 a (30 + y) = gi B0 a (30 + y) := fun a ha => ((d2.2 a _ (by omega)).1.trans (c2.2 a _ (by omega)).1).trans ((b2.2 a _ (by omega)).1.trans (a2.2 a _ (by omega)).1)
  have hh : gi B4 195 (30 + y) = gi B 195 y ∧ gi B4 196 (30 + y) = gi B 196 y ∧ gi B4 207 (30 + y) = gi B 207 y ∧ gi B4 203 (30 + y) = gi B 203 y ∧ gi B4 197 (30 + y) = gi B 197 y ∧ gi B4 200 (30 + y) = gi B 200 y := ⟨(g 195 (by omega)).trans v0.2.1, (g 196 (by omega)).trans v0.2.2.1, (g 207 (by omega)).trans v0.2.2.2.2.2.2, (g 203 (by omega)).trans v0.2.2.2.2.2.1, (g 197 (by omega)).trans v0.2.2.2.1, (g 200 (by omega)).trans v0.2.2.2.2.1⟩
  refine ⟨B4, rfl, t1, (g 194 (by omega)).trans v0.1, hh, rve_of hh (fun j hj => ?_) (fun j hj => ?_) (fun j hj => ?_) (fun j hj => ?_)⟩
  · have q := d3 j (by omega) hj
    exact ⟨(q.1).trans (((c2.2 208 _ (by omega)).1).trans (((b2.2 208 _ (by omega)).1).trans (((a2.2 208 _ (by omega)).1).trans ((f0.2 208 _ (by omega)).1)))), (q.2.1).trans (((c2.2 209 _ (by omega)).2).trans (((b2.2 209 _ (by omega)).2).trans (((a2.2 209 _ (by omega)).2).trans ((f0.2 209 _ (by omega)).2)))), (q.2.2).trans (((c2.2 210 _ (by omega)).1).trans (((b2.2 210 _ (by omega)).1).trans (((a2.2 210 _ (by omega)).1).trans ((f0.2 210 _ (by omega)).1))))⟩
  · have q := c3 j (by omega) hj
    exact ⟨((d2.2 204 _ (by omega)).1).trans ((q.1).trans (((b2.2 204 _ (by omega)).1).trans (((a2.2 204 _ (by omega)).1).trans ((f0.2 204 _ (by omega)).1)))), ((d2.2 205 _ (by omega)).1).trans ((q.2.1).trans (((b2.2 205 _ (by omega)).1).trans (((a2.2 205 _ (by omega)).1).trans ((f0.2 205 _ (by omega)).1)))), ((d2.2 206 _ (by omega)).1).trans ((q.2.2).trans (((b2.2 206 _ (by omega)).1).trans (((a2.2 206 _ (by omega)).1).trans ((f0.2 206 _ (by omega)).1))))⟩
  · have q := a3 j (by omega) hj
    exact ⟨((d2.2 198 _ (by omega)).2).trans (((c2.2 198 _ (by omega)).2).trans (((b2.2 198 _ (by omega)).2).trans ((q.1).trans ((f0.2 198 _ (by omega)).2)))), ((d2.2 199 _ (by omega)).1).trans (((c2.2 199 _ (by omega)).1).trans (((b2.2 199 _ (by omega)).1).trans ((q.2).trans ((f0.2 199 _ (by omega)).1))))⟩
  · have q := b3 j (by omega) hj
    exact ⟨((d2.2 201 _ (by omega)).2).trans (((c2.2 201 _ (by omega)).2).trans ((q.1).trans (((a2.2 201 _ (by omega)).2).trans ((f0.2 201 _ (by omega)).2)))), ((d2.2 202 _ (by omega)).1).trans (((c2.2 202 _ (by omega)).1).trans ((q.2).trans (((a2.2 202 _ (by omega)).1).trans ((f0.2 202 _ (by omega)).1))))⟩
/-- what one year of issue() may change in the reference -/
def IsS (y a j : Nat) : Prop := (211 ≤ a ∧ a ≤ 215 ∧ j = y) ∨ (a = 216 ∧ 72 * y ≤ j ∧ j < 72 * y + 72) ∨ Slt (30 + y) a j
theorem z_197 {k : Int32 → Int32 → Int32 → Mem → Option (Int32 × Mem)} {T v : Int32} {y : Nat} (hy : y < 30) : ∀ {j q F : Nat} {B : Mem}, q + j = 72 → j < F → ∃ B', SJ_X11_issue_197 k F T v (ni y) (ni q) B = (if ¬ gi B' 194 y = 0 then ((S_X11_copies (ni y) B').bind fun w1 => k T (v + 1) (ni y + 1) w1.2) else k T v (ni y + 1) B') ∧ FrW (fun a i => a = 216 ∧ 72 * y + q ≤ i ∧ i < 72 * y + 72) B B' ∧ ∀ i, q ≤ i → i < 72 → gl B' 216 (72 * y + i) = 0 := by
  intro j
  induction j with
  | zero =>
    intro q F B hj hF
    obtain ⟨F, rfl⟩ : ∃ u, F = u + 1 := ⟨F - 1, by omega⟩
    rw [SJ_X11_issue_197]; dsimp only
    rw [if_pos (show (72 : Int32) ≤ ni q from (ni_le (a := 72) (by omega) (by omega)).mpr (by omega)), gdT ((ni_inb (by omega)).mpr (by omega)), ni_tn (by omega)]
    exact ⟨B, rfl, FrW.rf, fun i h1 h2 => by omega⟩
  | succ j ih =>
    intro q F B hj hF
    obtain ⟨F, rfl⟩ : ∃ u, F = u + 1 := ⟨F - 1, by omega⟩
    have hI : (72 : Int32) * ni y + ni q = ni (72 * y + q) := by rw [show (72 : Int32) = ni 72 from rfl, ni_mul, ni_add]
    have f1 : FrW (fun a i => a = 216 ∧ i = 72 * y + q) B (sl B 216 (72 * y + q) 0) := frw_sl
    rw [SJ_X11_issue_197]; dsimp only
    rw [if_neg (show ¬ (72 : Int32) ≤ ni q from fun e => by have := (ni_le (a := 72) (by omega) (by omega)).mp e; omega), hI, gdT ((ni_inb (by omega)).mpr (by omega)), ni_tn (a := 72 * y + q) (by omega), show ni q + 1 = ni (q + 1) from ni_add q 1]
    obtain ⟨B', g1, g2, g3⟩ := ih (q := q + 1) (F := F) (B := sl B 216 (72 * y + q) 0) (by omega) (by omega)
    refine ⟨B', g1, f1.tr g2 (fun a i u => by omega), fun i h1 h2 => ?_⟩
    by_cases e : i = q
    · subst e
      rw [(g2.2 216 _ (by omega)).2, sl_eq]
    · exact g3 i (by omega) h2
theorem nar0 : vp_nar (aty 24) (0 : Int32) = 0 := by decide
theorem is_y {k : Int32 → Int32 → Int32 → Mem → Option (Int32 × Mem)} {T v : Int32} {y : Nat} {B : Mem} (hy : y < 30) (ht : gi B 194 y = 0 ∨ gi B 194 y = 1) :
    ∃ B', (if (gi (si B 211 y 0) 194 y) = 0 then (SJ_X11_issue_146 k T v (ni y) (ni y) (0 : Int32) (si B 211 y 0)) else (SJ_X11_issue_146 k T v (ni y) (ni y) (1 : Int32) (si B 211 y 0))) = k T (v + gi B 194 y) (ni y + 1) B' ∧ FrW (IsS y) B B' ∧ gi B' 211 y = 0 ∧ gi B' 212 y = gi B 194 y ∧ gi B' 213 y = (if gi B 194 y = 0 then 0 else gi B 181 59) ∧ gi B' 214 y = 0 ∧ gi B' 215 y = 0 ∧ (∀ i, i < 72 → gl B' 216 (72 * y + i) = 0) ∧ gi B' 194 (30 + y) = gi B 194 y ∧ (gi B 194 y = 1 → (gi B' 195 (30 + y) = gi B 195 y ∧ gi B' 196 (30 + y) = gi B 196 y ∧ gi B' 207 (30 + y) = gi B 207 y ∧ gi B' 203 (30 + y) = gi B 203 y ∧ gi B' 197 (30 + y) = gi B 197 y ∧ gi B' 200 (30 + y) = gi B 200 y) ∧ RvE (svR B y) (svR B' (30 + y))) := by
  have main : ∀ (x e : Int32), gi B 194 y = x → e = (if x = 0 then 0 else gi B 181 59) → (x = 0 ∨ x = 1) → ∃ B', SJ_X11_issue_169 k T v (ni y) (ni y) e (si (si B 211 y 0) 212 y x) = k T (v + x) (ni y + 1) B' ∧ FrW (IsS y) B B' ∧ gi B' 211 y = 0 ∧ gi B' 212 y = x ∧ gi B' 213 y = e ∧ gi B' 214 y = 0 ∧ gi B' 215 y = 0 ∧ (∀ i, i < 72 → gl B' 216 (72 * y + i) = 0) ∧ gi B' 194 (30 + y) = x ∧ (x = 1 → (gi B' 195 (30 + y) = gi B 195 y ∧ gi B' 196 (30 + y) = gi B 196 y ∧ gi B' 207 (30 + y) = gi B 207 y ∧ gi B' 203 (30 + y) = gi B 203 y ∧ gi B' 197 (30 + y) = gi B 197 y ∧ gi B' 200 (30 + y) = gi B 200 y) ∧ RvE (svR B y) (svR B' (30 + y))) := by
    intro x e hx he hx2
    have f0 : FrW (fun a i => (211 ≤ a ∧ a ≤ 215 ∧ i = y) ∨ (a = 194 ∧ i = 30 + y)) B (si (si (si (si (si (si B 211 y 0) 212 y x) 213 y e) 214 y 0) 215 y 0) 194 (30 + y) 0) :=
      FrW.tr (FrW.tr (FrW.tr (FrW.tr (FrW.tr frw_si frw_si (U := fun a i => (211 ≤ a ∧ a ≤ 215 ∧ i = y)) (fun a i u => by omega)) frw_si (U := fun a i => (211 ≤ a ∧ a ≤ 215 ∧ i = y)) (fun a i u => by omega)) frw_si (U := fun a i => (211 ≤ a ∧ a ≤ 215 ∧ i = y)) (fun a i u => by omega)) frw_si (U := fun a i => (211 ≤ a ∧ a ≤ 215 ∧ i = y)) (fun a i u => by omega)) frw_si (fun a i u => by omega)
    have v0 : gi (si (si (si (si (si (si B 211 y 0) 212 y x) 213 y e) 214 y 0) 215 y 0) 194 (30 + y) 0) 211 y = 0 ∧ gi (si (si (si (si (si (si B 211 y 0) 212 y x) 213 y e) 214 y 0) 215 y 0) 194 (30 + y) 0) 212 y = x ∧ gi (si (si (si (si (si (si B 211 y 0) 212 y x) 213 y e) 214 y 0) 215 y 0) 194 (30 + y) 0) 213 y = e ∧ gi (si (si (si (si (si (si B 211 y 0) 212 y x) 213 y e) 214 y 0) 215 y 0) 194 (30 + y) 0) 214 y = 0 ∧ gi (si (si (si (si (si (si B 211 y 0) 212 y x) 213 y e) 214 y 0) 215 y 0) 194 (30 + y) 0) 215 y = 0 ∧ gi (si (si (si (si (si (si B 211 y 0) 212 y x) 213 y e) 214 y 0) 215 y 0) 194 (30 + y) 0) 194 (30 + y) = 0 := by
      refine ⟨?_, ?_, ?_, ?_, ?_, si_eq⟩
      · rw [gi_ne (by omega), gi_ne (by omega), gi_ne (by omega), gi_ne (by omega), gi_ne (by omega), si_eq]
      · rw [gi_ne (by omega), gi_ne (by omega), gi_ne (by omega), gi_ne (by omega), si_eq]
      · rw [gi_ne (by omega), gi_ne (by omega), gi_ne (by omega), si_eq]
      · rw [gi_ne (by omega), gi_ne (by omega), si_eq]
      · rw [gi_ne (by omega), si_eq]
    unfold SJ_X11_issue_169
    rw [show (30 : Int32) + ni y = ni (30 + y) from ni_add 30 y, gdT ((ni_inb (by omega)).mpr (by omega)), gdT ((ni_inb (by omega)).mpr (by omega)), gdT ((ni_inb (by omega)).mpr (by omega)), gdT ((ni_inb (by omega)).mpr (by omega)), ni_tn (a := 30 + y) (by omega), ni_tn (a := y) (by omega), nar0]
    generalize si (si (si (si (si (si B 211 y 0) 212 y x) 213 y e) 214 y 0) 215 y 0) 194 (30 + y) 0 = B0 at *
    obtain ⟨B1, a1, a2, a3⟩ := z_197 (k := k) (T := T) (v := v) hy (j := 72) (q := 0) (F := FU) (B := B0) (by omega) (by have : FU = 4000000 := rfl; omega)
    have e1 : gi B1 194 y = x := ((a2.2 194 y (by omega)).1.trans (f0.2 194 y (by omega)).1).trans hx
    have a1 : SJ_X11_issue_197 k FU T v (ni y) 0 B0 = _ := a1
    rw [a1, e1]
    have t1 : FrW (IsS y) B B1 := f0.tr a2 (fun a i u => by unfold IsS Slt at u; omega)
    have g : ∀ a i, (211 ≤ a ∧ a ≤ 215) ∨ a = 194 → gi B1 a i = gi B0 a i := fun a i ha => (a2.2 a i (by omega)).1
    rcases hx2 with hx2 | hx2
    · subst hx2
      rw [if_neg (fun q => q rfl)]
      refine ⟨B1, by rw [Int32.add_zero], t1, (g 211 y (by omega)).trans v0.1, (g 212 y (by omega)).trans v0.2.1, (g 213 y (by omega)).trans v0.2.2.1, (g 214 y (by omega)).trans v0.2.2.2.1, (g 215 y (by omega)).trans v0.2.2.2.2.1, fun i hi => a3 i (by omega) hi, (g 194 _ (by omega)).trans v0.2.2.2.2.2, fun q => absurd q (by decide)⟩
    · subst hx2
      rw [if_pos (show ¬ (1 : Int32) = 0 by decide)]
      obtain ⟨B2, b1, b2, b3, b4, b5⟩ := copies_ok (B := B1) hy
      rw [b1, bS]
      have c : ∀ a i, 194 ≤ a → a ≤ 210 → ¬ (a = 194 ∧ i = 30 + y) → gi B1 a i = gi B a i ∧ gl B1 a i = gl B a i := fun a i h1 h2 h3 => ⟨(a2.2 a i (by omega)).1.trans (f0.2 a i (by omega)).1, (a2.2 a i (by omega)).2.trans (f0.2 a i (by omega)).2⟩
      have sv : svR B1 y = svR B y := by
        unfold svR
        have i5 := (c 195 y (by omega) (by omega) (by omega)).1
        have i6 := (c 196 y (by omega) (by omega) (by omega)).1
        have i7 := (c 207 y (by omega) (by omega) (by omega)).1
        have i3 := (c 203 y (by omega) (by omega) (by omega)).1
        have i8 := (c 197 y (by omega) (by omega) (by omega)).1
        have i9 := (c 200 y (by omega) (by omega) (by omega)).1
        rw [i5, i6, i7, i3, i8, i9, show gi B1 208 = gi B 208 from funext fun i => (c 208 i (by omega) (by omega) (by omega)).1, show gl B1 209 = gl B 209 from funext fun i => (c 209 i (by omega) (by omega) (by omega)).2, show gi B1 210 = gi B 210 from funext fun i => (c 210 i (by omega) (by omega) (by omega)).1, show gi B1 204 = gi B 204 from funext fun i => (c 204 i (by omega) (by omega) (by omega)).1, show gi B1 205 = gi B 205 from funext fun i => (c 205 i (by omega) (by omega) (by omega)).1, show gi B1 206 = gi B 206 from funext fun i => (c 206 i (by omega) (by omega) (by omega)).1, show gl B1 198 = gl B 198 from funext fun i => (c 198 i (by omega) (by omega) (by omega)).2, show gi B1 199 = gi B 199 from funext fun i => (c 199 i (by omega) (by omega) (by omega)).1, show gl B1 201 = gl B 201 from funext fun i => (c 201 i (by omega) (by omega) (by omega)).2, show gi B1 202 = gi B 202 from funext fun i => (c 202 i (by omega) (by omega) (by omega)).1]
      have h : ∀ a i, 211 ≤ a ∧ a ≤ 216 → gi B2 a i = gi B1 a i ∧ gl B2 a i = gl B1 a i := fun a i ha => b2.2 a i (by unfold Slt; omega)
      refine ⟨B2, rfl, t1.tr b2 (fun a i u => ⟨u, fun q => u (Or.inr (Or.inr q))⟩), (h 211 y (by omega)).1.trans ((g 211 y (by omega)).trans v0.1), (h 212 y (by omega)).1.trans ((g 212 y (by omega)).trans v0.2.1), (h 213 y (by omega)).1.trans ((g 213 y (by omega)).trans v0.2.2.1), (h 214 y (by omega)).1.trans ((g 214 y (by omega)).trans v0.2.2.2.1), (h 215 y (by omega)).1.trans ((g 215 y (by omega)).trans v0.2.2.2.2.1), fun i hi => (h 216 _ (by omega)).2.trans (a3 i (by omega) hi), b3, fun _ => ⟨⟨b4.1.trans (c 195 y (by omega) (by omega) (by omega)).1, b4.2.1.trans (c 196 y (by omega) (by omega) (by omega)).1, b4.2.2.1.trans (c 207 y (by omega) (by omega) (by omega)).1, b4.2.2.2.1.trans (c 203 y (by omega) (by omega) (by omega)).1, b4.2.2.2.2.1.trans (c 197 y (by omega) (by omega) (by omega)).1, b4.2.2.2.2.2.trans (c 200 y (by omega) (by omega) (by omega)).1⟩, by rw [← sv]; exact b5⟩⟩
  have e0 : gi (si B 211 y 0) 194 y = gi B 194 y := by rw [gi_ne (by omega)]
  have e1 : ∀ x, gi (si (si B 211 y 0) 212 y x) 194 y = gi B 194 y := fun x => by rw [gi_ne (by omega), gi_ne (by omega)]
  have e2 : ∀ x, gi (si (si B 211 y 0) 212 y x) 181 59 = gi B 181 59 := fun x => by rw [gi_ne (by omega), gi_ne (by omega)]
  unfold SJ_X11_issue_146
  rw [e0, gdT ((ni_inb (by omega)).mpr (by omega)), gdT ((ni_inb (by omega)).mpr (by omega)), gdT ((ni_inb (by omega)).mpr (by omega)), gdT ((ni_inb (by omega)).mpr (by omega)), ni_tn (by omega), e1, e1, e2, e2]
  rcases ht with ht | ht
  · rw [ht, if_pos rfl, if_pos rfl, if_pos rfl]
    exact main 0 0 ht rfl (Or.inl rfl)
  · rw [ht, if_neg (show ¬ (1 : Int32) = 0 by decide), if_neg (show ¬ (1 : Int32) = 0 by decide), if_neg (show ¬ (1 : Int32) = 0 by decide)]
    exact main 1 (gi B 181 59) ht rfl (Or.inr rfl)

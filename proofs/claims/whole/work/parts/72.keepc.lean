-- ===== what the class's methods keep (by program: wip/sclass.py) =====
/-- a reference that is never written again: final fields, and the rows of tariffs and of frames -/
def fxk (k j : Nat) : Bool := decide ((k = 0 ∧ (j = 4 ∨ j = 5 ∨ j = 7 ∨ j = 8 ∨ j = 10 ∨ j = 11 ∨ j = 13 ∨ j = 14 ∨ j = 15)) ∨ (k = 1 ∧ (j = 0 ∨ j = 1)) ∨ (k = 3 ∧ (j = 0 ∨ j = 1 ∨ j = 3 ∨ j = 5 ∨ j = 7)) ∨ (k = 4 ∧ (j = 0 ∨ j = 1)) ∨ (k = 5 ∧ (j = 0 ∨ j = 1 ∨ j = 3)) ∨ (k = 6 ∧ (j = 4 ∨ j = 5 ∨ j = 6 ∨ j = 7 ∨ j = 8 ∨ j = 9 ∨ j = 10 ∨ j = 11 ∨ j = 12)) ∨ (k = 7 ∧ (j = 0 ∨ j = 2 ∨ j = 3 ∨ j = 4 ∨ j = 6)) ∨ (k = 8 ∧ (j = 5 ∨ j = 6 ∨ j = 7)) ∨ (k = 9 ∧ (j = 3 ∨ j = 4 ∨ j = 5 ∨ j = 6)) ∨ (k = 10 ∧ (j = 0 ∨ j = 1 ∨ j = 2 ∨ j = 3 ∨ j = 4 ∨ j = 5)) ∨ k = 26 ∨ k = 27)
/-- kinds, lengths and final references of what was there stay -/
def KC (M M' : Mem) : Prop := nc M ≤ nc M' ∧ ns M ≤ ns M' ∧ (∀ a, a < nc M → kd M' a = kd M a ∧ ln M' a = ln M a) ∧ ∀ a j, a < nc M → fxk (kd M a) j = true → gr M' a j = gr M a j
theorem KC.rf {M : Mem} : KC M M := ⟨Nat.le_refl _, Nat.le_refl _, fun _ _ => ⟨rfl, rfl⟩, fun _ _ _ _ => rfl⟩
theorem KC.trans {A B C : Mem} (h : KC A B) (g : KC B C) : KC A C := by
  obtain ⟨h1, h2, h3, h4⟩ := h
  obtain ⟨g1, g2, g3, g4⟩ := g
  refine ⟨Nat.le_trans h1 g1, Nat.le_trans h2 g2, fun a ha => ?_, fun a j ha hf => ?_⟩
  · have e1 := h3 a ha
    have e2 := g3 a (Nat.lt_of_lt_of_le ha h1)
    exact ⟨e2.1.trans e1.1, e2.2.trans e1.2⟩
  · rw [g4 a j (Nat.lt_of_lt_of_le ha h1) (by rw [(h3 a ha).1]; exact hf), h4 a j ha hf]
/-- a constructor: the same, but for its own object -/
def KX (v : Option Nat) (M M' : Mem) : Prop := nc M ≤ nc M' ∧ ns M ≤ ns M' ∧ (∀ a, a < nc M → kd M' a = kd M a ∧ ln M' a = ln M a) ∧ ∀ a j, a < nc M → some a ≠ v → fxk (kd M a) j = true → gr M' a j = gr M a j
theorem KX.rf {v : Option Nat} {M : Mem} : KX v M M := ⟨Nat.le_refl _, Nat.le_refl _, fun _ _ => ⟨rfl, rfl⟩, fun _ _ _ _ _ => rfl⟩
theorem KX.step {v : Option Nat} {A B C : Mem} (h : KX v A B) (g : KX v B C) : KX v A C := by
  obtain ⟨h1, h2, h3, h4⟩ := h
  obtain ⟨g1, g2, g3, g4⟩ := g
  refine ⟨Nat.le_trans h1 g1, Nat.le_trans h2 g2, fun a ha => ?_, fun a j ha hv hf => ?_⟩
  · have e1 := h3 a ha
    have e2 := g3 a (Nat.lt_of_lt_of_le ha h1)
    exact ⟨e2.1.trans e1.1, e2.2.trans e1.2⟩
  · rw [g4 a j (Nat.lt_of_lt_of_le ha h1) hv (by rw [(h3 a ha).1]; exact hf), h4 a j ha hv hf]
theorem KC.kx {v : Option Nat} {A B : Mem} (g : KC A B) : KX v A B := ⟨g.1, g.2.1, g.2.2.1, fun a j ha _ hf => g.2.2.2 a j ha hf⟩
theorem KX.trans {v : Option Nat} {A B C : Mem} (h : KX v A B) (g : KC B C) : KX v A C := h.step g.kx
section Kc
variable {M M1 : Mem} {k j n z : Nat} {x i : Int32} {y : Int64} {a u : Option Nat}
theorem kc_nw : KC M (nw M k n z) := by
  refine ⟨by rw [nc_nw]; omega, by rw [ns_nw]; omega, fun a ha => ?_, fun a j ha _ => ?_⟩
  · rw [kd_nw, ln_nw, if_neg (by omega), if_neg (by omega)]; exact ⟨rfl, rfl⟩
  · rw [gr_nw, if_neg (by omega)]
theorem kc_nA (h : nA M k x = some M1) : KC M M1 := by
  unfold nA at h
  split at h
  · cases h
  · cases h; exact kc_nw
theorem kc_si {q p : Nat} : KC M (si M q p x) := ⟨Nat.le_refl _, Nat.le_refl _, fun _ _ => ⟨rfl, rfl⟩, fun _ _ _ _ => rfl⟩
theorem kc_sl {q p : Nat} : KC M (sl M q p y) := ⟨Nat.le_refl _, Nat.le_refl _, fun _ _ => ⟨rfl, rfl⟩, fun _ _ _ _ => rfl⟩
theorem kc_pI (h : pI M k j a x = some M1) : KC M M1 := by
  cases a with
  | none => cases h
  | some a => unfold pI at h; dsimp only at h; split at h <;> cases h; exact kc_si
theorem kc_pZ (h : pZ M k j a x = some M1) : KC M M1 := by
  unfold pZ at h
  split at h
  · exact kc_pI h
  · cases h
theorem kc_pL (h : pL M k j a y = some M1) : KC M M1 := by
  cases a with
  | none => cases h
  | some a => unfold pL at h; dsimp only at h; split at h <;> cases h; exact kc_sl
theorem kc_pR (hf : fxk k j = false) (h : pR M k j a u = some M1) : KC M M1 := by
  cases a with
  | none => cases h
  | some a =>
    unfold pR at h; dsimp only at h
    split at h
    · rename_i hk
      cases h
      refine ⟨Nat.le_refl _, Nat.le_refl _, fun _ _ => ⟨rfl, rfl⟩, fun b i _ hb => ?_⟩
      rw [gr_sr, if_neg]
      rintro ⟨rfl, rfl⟩
      rw [hk, hf] at hb
      cases hb
    · cases h
theorem kc_uI (h : uI M k a i x = some M1) : KC M M1 := by
  cases a with
  | none => cases h
  | some a => unfold uI at h; dsimp only at h; split at h <;> cases h; exact kc_si
theorem kc_uN (h : uN M k a i x = some M1) : KC M M1 := by
  cases a with
  | none => cases h
  | some a => unfold uN at h; dsimp only at h; split at h <;> cases h; exact kc_si
theorem kc_uL (h : uL M k a i y = some M1) : KC M M1 := by
  cases a with
  | none => cases h
  | some a => unfold uL at h; dsimp only at h; split at h <;> cases h; exact kc_sl
theorem kc_uR (hf : ∀ j, fxk k j = false) (h : uR M k a i u = some M1) : KC M M1 := by
  cases a with
  | none => cases h
  | some a =>
    unfold uR at h; dsimp only at h
    split at h
    · rename_i hk
      cases h
      refine ⟨Nat.le_refl _, Nat.le_refl _, fun _ _ => ⟨rfl, rfl⟩, fun b i _ hb => ?_⟩
      rw [gr_sr, if_neg]
      rintro ⟨rfl, rfl⟩
      rw [hk.1, hf] at hb
      cases hb
    · cases h
theorem fx25 : ∀ j, fxk 25 j = false := fun j => by simp [fxk]
theorem fx28 : ∀ j, fxk 28 j = false := fun j => by simp [fxk]
theorem kc_cpyI {a1 : Option Nat} {sp dp n : Int32} (h : cpyI M a sp a1 dp n = some M1) : KC M M1 := by
  unfold cpyI at h
  split at h
  · split at h
    · cases h; exact ⟨Nat.le_refl _, Nat.le_refl _, fun _ _ => ⟨rfl, rfl⟩, fun _ _ _ _ => rfl⟩
    · cases h
  · cases h
theorem kc_cpyL {a1 : Option Nat} {sp dp n : Int32} (h : cpyL M a sp a1 dp n = some M1) : KC M M1 := by
  unfold cpyL at h
  split at h
  · split at h
    · cases h; exact ⟨Nat.le_refl _, Nat.le_refl _, fun _ _ => ⟨rfl, rfl⟩, fun _ _ _ _ => rfl⟩
    · cases h
  · cases h
theorem kc_dupeI (h : dupeI M a = some M1) : KC M M1 := by
  unfold dupeI at h
  split at h
  · split at h
    · cases h; exact kc_nw.trans ⟨Nat.le_refl _, Nat.le_refl _, fun _ _ => ⟨rfl, rfl⟩, fun _ _ _ _ => rfl⟩
    · cases h
  · cases h
theorem kc_dupeL (h : dupeL M a = some M1) : KC M M1 := by
  unfold dupeL at h
  split at h
  · split at h
    · cases h; exact kc_nw.trans ⟨Nat.le_refl _, Nat.le_refl _, fun _ _ => ⟨rfl, rfl⟩, fun _ _ _ _ => rfl⟩
    · cases h
  · cases h
theorem kx_pR (h : pR M k j a u = some M1) : KX a M M1 := by
  cases a with
  | none => cases h
  | some a =>
    unfold pR at h; dsimp only at h
    split at h
    · cases h
      refine ⟨Nat.le_refl _, Nat.le_refl _, fun _ _ => ⟨rfl, rfl⟩, fun b i _ hb _ => ?_⟩
      rw [gr_sr, if_neg]
      rintro ⟨rfl, rfl⟩
      exact hb rfl
    · cases h
theorem kx_pI (h : pI M k j a x = some M1) : KX a M M1 := (kc_pI h).kx
theorem kx_pL (h : pL M k j a y = some M1) : KX a M M1 := (kc_pL h).kx
theorem kx_new {A B : Mem} (h : KC A M) (g : KX (some (nc M)) (nw M k n z) B) : KC A B := by
  refine h.trans ?_
  have w := kc_nw (M := M) (k := k) (n := n) (z := z)
  obtain ⟨g1, g2, g3, g4⟩ := g
  obtain ⟨w1, w2, w3, w4⟩ := w
  refine ⟨Nat.le_trans w1 g1, Nat.le_trans w2 g2, fun a ha => ?_, fun a j ha hf => ?_⟩
  · have e2 := g3 a (Nat.lt_of_lt_of_le ha w1)
    exact ⟨e2.1.trans (w3 a ha).1, e2.2.trans (w3 a ha).2⟩
  · rw [g4 a j (Nat.lt_of_lt_of_le ha w1) (fun e => by cases e; omega) (by rw [(w3 a ha).1]; exact hf), w4 a j ha hf]
end Kc
theorem keep_X0_clear {M : Mem} {z : Unit × Mem} {v0 : Option Nat} (h : L_X0_clear v0 M = some z) : KC M z.2 := by
  unfold L_X0_clear at h
  have hg : KC M M := KC.rf
  obtain ⟨_, hw, h⟩ := bnd h
  have hg := hg.trans (kc_pI hw)
  obtain ⟨_, hw, h⟩ := bnd h
  have hg := hg.trans (kc_pI hw)
  obtain ⟨_, hw, h⟩ := bnd h
  have hg := hg.trans (kc_pI hw)
  obtain ⟨_, hw, h⟩ := bnd h
  have hg := hg.trans (kc_pI hw)
  obtain ⟨_, hw, h⟩ := bnd h
  have hg := hg.trans (kc_pI hw)
  obtain ⟨_, hw, h⟩ := bnd h
  have hg := hg.trans (kc_pI hw)
  obtain ⟨_, hw, h⟩ := bnd h
  have hg := hg.trans (kc_pI hw)
  obtain ⟨_, hw, h⟩ := bnd h
  have hg := hg.trans (kc_pI hw)
  cases h; exact hg
theorem keep_X0_emit {M : Mem} {z : Int32 × Mem} {v0 : Option Nat} {v1 : Int32} {v2 : Int64} (h : L_X0_emit v0 v1 v2 M = some z) : KC M z.2 := by
  unfold L_X0_emit at h
  have hg : KC M M := KC.rf
  obtain ⟨_, -, h⟩ := bnd h
  obtain ⟨_, -, h⟩ := bnd h
  obtain ⟨_, -, h⟩ := bnd h
  rcases itor h with h | h
  · obtain ⟨_, -, h⟩ := bnd h
    obtain ⟨_, -, h⟩ := bnd h
    obtain ⟨_, hw, h⟩ := bnd h
    have hg := hg.trans (kc_uI hw)
    obtain ⟨_, -, h⟩ := bnd h
    obtain ⟨_, -, h⟩ := bnd h
    obtain ⟨_, hw, h⟩ := bnd h
    have hg := hg.trans (kc_uL hw)
    obtain ⟨_, -, h⟩ := bnd h
    obtain ⟨_, hw, h⟩ := bnd h
    have hg := hg.trans (kc_pI hw)
    obtain ⟨_, -, h⟩ := bnd h
    cases h; exact hg
  · cases h; exact hg
theorem keep_X0_emitReference {M : Mem} {z : Unit × Mem} {v0 : Option Nat} {v1 : Int32} {v2 : Int32} {v3 : Int64} (h : L_X0_emitReference v0 v1 v2 v3 M = some z) : KC M z.2 := by
  unfold L_X0_emitReference at h
  have hg : KC M M := KC.rf
  obtain ⟨_, -, h⟩ := bnd h
  obtain ⟨w9, hw, h⟩ := bnd h
  have hg := hg.trans (keep_X0_emit hw)
  cases h; exact hg
theorem keep_X0_landHere {M : Mem} {z : Unit × Mem} {v0 : Option Nat} {v1 : Int32} (h : L_X0_landHere v0 v1 M = some z) : KC M z.2 := by
  unfold L_X0_landHere at h
  have hg : KC M M := KC.rf
  rcases itor h with h | h
  · cases h; exact hg
  · obtain ⟨_, -, h⟩ := bnd h
    rcases itor h with h | h
    · cases h; exact hg
    · obtain ⟨_, -, h⟩ := bnd h
      obtain ⟨_, -, h⟩ := bnd h
      obtain ⟨_, hw, h⟩ := bnd h
      have hg := hg.trans (kc_uL hw)
      cases h; exact hg
theorem keepJ_X10_positionOf_3 {z : Int32 × Mem} : ∀ (n : Nat) (v0 : Option Nat) (v1 : Int32) (v2 : Int64) (v4 : Int32) (M : Mem), J_X10_positionOf_3 n v0 v1 v2 v4 M = some z → KC M z.2 := by
  intro n
  induction n with
  | zero => intro v0 v1 v2 v4 M h; exact nomatch h
  | succ n ih =>
    intro v0 v1 v2 v4 M h
    unfold J_X10_positionOf_3 at h
    have hg : KC M M := KC.rf
    rcases itor h with h | h
    · cases h; exact hg
    · obtain ⟨_, -, h⟩ := bnd h
      rcases itor h with h | h
      · cases h; exact hg
      · obtain ⟨_, -, h⟩ := bnd h
        rcases itor h with h | h
        · exact hg.trans (ih _ _ _ _ _ h)
        · cases h; exact hg
theorem keep_X10_positionOf {M : Mem} {z : Int32 × Mem} {v0 : Option Nat} {v1 : Int32} {v2 : Int64} (h : L_X10_positionOf v0 v1 v2 M = some z) : KC M z.2 := by
  unfold L_X10_positionOf at h
  have hg : KC M M := KC.rf
  exact hg.trans (keepJ_X10_positionOf_3 FU _ _ _ _ _ h)
theorem keep_X0_hasName {M : Mem} {z : Int32 × Mem} {v0 : Option Nat} {v1 : Int64} (h : L_X0_hasName v0 v1 M = some z) : KC M z.2 := by
  unfold L_X0_hasName at h
  have hg : KC M M := KC.rf
  obtain ⟨_, -, h⟩ := bnd h
  obtain ⟨_, -, h⟩ := bnd h
  obtain ⟨w9, hw, h⟩ := bnd h
  have hg := hg.trans (keep_X10_positionOf hw)
  rcases itor h with h | h
  · obtain ⟨_, -, h⟩ := bnd h
    cases h; exact hg
  · obtain ⟨_, -, h⟩ := bnd h
    obtain ⟨_, -, h⟩ := bnd h
    obtain ⟨w25, hw, h⟩ := bnd h
    have hg := hg.trans (keep_X10_positionOf hw)
    rcases itor h with h | h
    · obtain ⟨_, -, h⟩ := bnd h
      cases h; exact hg
    · obtain ⟨_, -, h⟩ := bnd h
      cases h; exact hg
theorem keep_X0_addConst {M : Mem} {z : Unit × Mem} {v0 : Option Nat} {v1 : Int64} (h : L_X0_addConst v0 v1 M = some z) : KC M z.2 := by
  unfold L_X0_addConst at h
  have hg : KC M M := KC.rf
  obtain ⟨_, -, h⟩ := bnd h
  rcases itor h with h | h
  · cases h; exact hg
  · obtain ⟨_, -, h⟩ := bnd h
    obtain ⟨_, -, h⟩ := bnd h
    obtain ⟨_, hw, h⟩ := bnd h
    have hg := hg.trans (kc_uL hw)
    obtain ⟨_, -, h⟩ := bnd h
    obtain ⟨_, -, h⟩ := bnd h
    obtain ⟨_, -, h⟩ := bnd h
    obtain ⟨_, hw, h⟩ := bnd h
    have hg := hg.trans (kc_uI hw)
    obtain ⟨_, -, h⟩ := bnd h
    obtain ⟨_, hw, h⟩ := bnd h
    have hg := hg.trans (kc_pI hw)
    cases h; exact hg
theorem keep_X0_addTable {M : Mem} {z : Unit × Mem} {v0 : Option Nat} {v1 : Int64} {v3 : Int64} (h : L_X0_addTable v0 v1 v3 M = some z) : KC M z.2 := by
  unfold L_X0_addTable at h
  have hg : KC M M := KC.rf
  obtain ⟨_, -, h⟩ := bnd h
  rcases itor h with h | h
  · cases h; exact hg
  · obtain ⟨_, -, h⟩ := bnd h
    obtain ⟨_, -, h⟩ := bnd h
    obtain ⟨_, hw, h⟩ := bnd h
    have hg := hg.trans (kc_uL hw)
    obtain ⟨_, -, h⟩ := bnd h
    obtain ⟨_, -, h⟩ := bnd h
    obtain ⟨_, hw, h⟩ := bnd h
    have hg := hg.trans (kc_uI hw)
    obtain ⟨_, -, h⟩ := bnd h
    obtain ⟨_, hw, h⟩ := bnd h
    have hg := hg.trans (kc_pI hw)
    cases h; exact hg
theorem keep_X0_openTry {M : Mem} {z : Int32 × Mem} {v0 : Option Nat} (h : L_X0_openTry v0 M = some z) : KC M z.2 := by
  unfold L_X0_openTry at h
  have hg : KC M M := KC.rf
  obtain ⟨_, -, h⟩ := bnd h
  rcases itor h with h | h
  · obtain ⟨_, -, h⟩ := bnd h
    obtain ⟨_, -, h⟩ := bnd h
    obtain ⟨_, -, h⟩ := bnd h
    obtain ⟨_, hw, h⟩ := bnd h
    have hg := hg.trans (kc_uI hw)
    obtain ⟨_, -, h⟩ := bnd h
    obtain ⟨_, hw, h⟩ := bnd h
    have hg := hg.trans (kc_pI hw)
    obtain ⟨_, -, h⟩ := bnd h
    cases h; exact hg
  · cases h; exact hg
theorem keep_X0_closeTry {M : Mem} {z : Unit × Mem} {v0 : Option Nat} {v1 : Int32} (h : L_X0_closeTry v0 v1 M = some z) : KC M z.2 := by
  unfold L_X0_closeTry at h
  have hg : KC M M := KC.rf
  rcases itor h with h | h
  · cases h; exact hg
  · obtain ⟨_, -, h⟩ := bnd h
    rcases itor h with h | h
    · cases h; exact hg
    · obtain ⟨_, -, h⟩ := bnd h
      obtain ⟨_, -, h⟩ := bnd h
      obtain ⟨_, hw, h⟩ := bnd h
      have hg := hg.trans (kc_uI hw)
      obtain ⟨_, -, h⟩ := bnd h
      obtain ⟨_, -, h⟩ := bnd h
      obtain ⟨_, hw, h⟩ := bnd h
      have hg := hg.trans (kc_uI hw)
      cases h; exact hg
theorem keep_X1_change {M : Mem} {z : Unit × Mem} {v0 : Option Nat} {v1 : Int32} {v2 : Option Nat} (h : L_X1_change v0 v1 v2 M = some z) : KC M z.2 := by
  unfold L_X1_change at h
  have hg : KC M M := KC.rf
  obtain ⟨_, -, h⟩ := bnd h
  obtain ⟨_, hw, h⟩ := bnd h
  have hg := hg.trans (kc_uR (by first | exact fx25 | exact fx28) hw)
  obtain ⟨_, -, h⟩ := bnd h
  obtain ⟨_, hw, h⟩ := bnd h
  have hg := hg.trans (kc_pI hw)
  cases h; exact hg
theorem keepJ_X1_touchedYears_64 {M : Mem} {z : Int32 × Mem} {k_9 : Option Nat → Int32 → Int32 → Int32 → Mem → Option (Int32 × Mem)} (hk_9 : ∀ (v0 : Option Nat) (v1 : Int32) (v2 : Int32) (v3 : Int32) (Ma : Mem), k_9 v0 v1 v2 v3 Ma = some z → KC Ma z.2) {k_25 : Option Nat → Int32 → Int32 → Int32 → Int32 → Mem → Option (Int32 × Mem)} (hk_25 : ∀ (v0 : Option Nat) (v1 : Int32) (v2 : Int32) (v3 : Int32) (v4 : Int32) (Ma : Mem), k_25 v0 v1 v2 v3 v4 Ma = some z → KC Ma z.2) {v0 : Option Nat} {v1 : Int32} {v2 : Int32} {v3 : Int32} {v4 : Int32} (h : J_X1_touchedYears_64 k_9 k_25 v0 v1 v2 v3 v4 M = some z) : KC M z.2 := by
  unfold J_X1_touchedYears_64 at h
  have hg : KC M M := KC.rf
  exact hg.trans (hk_25 _ _ _ _ _ _ h)
theorem keepJ_X1_touchedYears_25 {z : Int32 × Mem} {k_9 : Option Nat → Int32 → Int32 → Int32 → Mem → Option (Int32 × Mem)} (hk_9 : ∀ (v0 : Option Nat) (v1 : Int32) (v2 : Int32) (v3 : Int32) (Ma : Mem), k_9 v0 v1 v2 v3 Ma = some z → KC Ma z.2) : ∀ (n : Nat) (v0 : Option Nat) (v1 : Int32) (v2 : Int32) (v3 : Int32) (v4 : Int32) (M : Mem), J_X1_touchedYears_25 k_9 n v0 v1 v2 v3 v4 M = some z → KC M z.2 := by
  intro n
  induction n with
  | zero => intro v0 v1 v2 v3 v4 M h; exact nomatch h
  | succ n ih =>
    intro v0 v1 v2 v3 v4 M h
    unfold J_X1_touchedYears_25 at h
    have hg : KC M M := KC.rf
    rcases itor h with h | h
    · exact hg.trans (hk_9 _ _ _ _ _ h)
    · obtain ⟨_, -, h⟩ := bnd h
      obtain ⟨_, -, h⟩ := bnd h
      rcases itor h with h | h
      · exact hg.trans (keepJ_X1_touchedYears_64 hk_9 ih h)
      · obtain ⟨_, -, h⟩ := bnd h
        obtain ⟨_, -, h⟩ := bnd h
        obtain ⟨_, -, h⟩ := bnd h
        rcases itor h with h | h
        · exact hg.trans (keepJ_X1_touchedYears_64 hk_9 ih h)
        · exact hg.trans (keepJ_X1_touchedYears_64 hk_9 ih h)
theorem keepJ_X1_touchedYears_9 {z : Int32 × Mem} : ∀ (n : Nat) (v0 : Option Nat) (v1 : Int32) (v2 : Int32) (v3 : Int32) (M : Mem), J_X1_touchedYears_9 n v0 v1 v2 v3 M = some z → KC M z.2 := by
  intro n
  induction n with
  | zero => intro v0 v1 v2 v3 M h; exact nomatch h
  | succ n ih =>
    intro v0 v1 v2 v3 M h
    unfold J_X1_touchedYears_9 at h
    have hg : KC M M := KC.rf
    rcases itor h with h | h
    · cases h; exact hg
    · rcases itor h with h | h
      · cases h; exact hg
      · exact hg.trans (keepJ_X1_touchedYears_25 ih FU _ _ _ _ _ _ h)
theorem keep_X1_touchedYears {M : Mem} {z : Int32 × Mem} {v0 : Option Nat} (h : L_X1_touchedYears v0 M = some z) : KC M z.2 := by
  unfold L_X1_touchedYears at h
  have hg : KC M M := KC.rf
  obtain ⟨_, -, h⟩ := bnd h
  exact hg.trans (keepJ_X1_touchedYears_9 FU _ _ _ _ _ h)
theorem keepJ_J7_fill_53178_5 {z : Unit × Mem} : ∀ (n : Nat) (v0 : Option Nat) (v1 : Int32) (v2 : Int32) (v3 : Int32) (M : Mem), J_J7_fill_53178_5 n v0 v1 v2 v3 M = some z → KC M z.2 := by
  intro n
  induction n with
  | zero => intro v0 v1 v2 v3 M h; exact nomatch h
  | succ n ih =>
    intro v0 v1 v2 v3 M h
    unfold J_J7_fill_53178_5 at h
    have hg : KC M M := KC.rf
    rcases itor h with h | h
    · cases h; exact hg
    · obtain ⟨_, hw, h⟩ := bnd h
      have hg := hg.trans (kc_uI hw)
      exact hg.trans (ih _ _ _ _ _ h)
theorem keep_J7_fill_53178 {M : Mem} {z : Unit × Mem} {v0 : Option Nat} {v1 : Int32} (h : L_J7_fill_53178 v0 v1 M = some z) : KC M z.2 := by
  unfold L_J7_fill_53178 at h
  have hg : KC M M := KC.rf
  obtain ⟨_, -, h⟩ := bnd h
  exact hg.trans (keepJ_J7_fill_53178_5 FU _ _ _ _ _ h)
theorem keepJ_J7_fill_d0a16_6 {z : Unit × Mem} : ∀ (n : Nat) (v0 : Option Nat) (v1 : Int64) (v3 : Int32) (v4 : Int32) (M : Mem), J_J7_fill_d0a16_6 n v0 v1 v3 v4 M = some z → KC M z.2 := by
  intro n
  induction n with
  | zero => intro v0 v1 v3 v4 M h; exact nomatch h
  | succ n ih =>
    intro v0 v1 v3 v4 M h
    unfold J_J7_fill_d0a16_6 at h
    have hg : KC M M := KC.rf
    rcases itor h with h | h
    · cases h; exact hg
    · obtain ⟨_, hw, h⟩ := bnd h
      have hg := hg.trans (kc_uL hw)
      exact hg.trans (ih _ _ _ _ _ h)
theorem keep_J7_fill_d0a16 {M : Mem} {z : Unit × Mem} {v0 : Option Nat} {v1 : Int64} (h : L_J7_fill_d0a16 v0 v1 M = some z) : KC M z.2 := by
  unfold L_J7_fill_d0a16 at h
  have hg : KC M M := KC.rf
  obtain ⟨_, -, h⟩ := bnd h
  exact hg.trans (keepJ_J7_fill_d0a16_6 FU _ _ _ _ _ h)
theorem keepJ_X8_make_28 {M : Mem} {z : Unit × Mem} {v0 : Option Nat} {s0 : Option Nat} {s1 : Int32} (h : J_X8_make_28 v0 s0 s1 M = some z) : KC M z.2 := by
  unfold J_X8_make_28 at h
  have hg : KC M M := KC.rf
  obtain ⟨_, hw, h⟩ := bnd h
  have hg := hg.trans (kc_pI hw)
  obtain ⟨_, hw, h⟩ := bnd h
  have hg := hg.trans (kc_pI hw)
  obtain ⟨_, hw, h⟩ := bnd h
  have hg := hg.trans (kc_pI hw)
  obtain ⟨_, -, h⟩ := bnd h
  obtain ⟨w46, hw, h⟩ := bnd h
  have hg := hg.trans (keep_J7_fill_53178 hw)
  obtain ⟨_, -, h⟩ := bnd h
  obtain ⟨w54, hw, h⟩ := bnd h
  have hg := hg.trans (keep_J7_fill_d0a16 hw)
  cases h; exact hg
theorem keepJ_X8_make_15 {M : Mem} {z : Unit × Mem} {v0 : Option Nat} {v1 : Option Nat} {v2 : Int32} {s0 : Option Nat} {s1 : Int32} (h : J_X8_make_15 v0 v1 v2 s0 s1 M = some z) : KC M z.2 := by
  unfold J_X8_make_15 at h
  have hg : KC M M := KC.rf
  obtain ⟨_, hw, h⟩ := bnd h
  have hg := hg.trans (kc_pI hw)
  rcases itor h with h | h
  · exact hg.trans (keepJ_X8_make_28 h)
  · exact hg.trans (keepJ_X8_make_28 h)
theorem keep_X8_make {M : Mem} {z : Unit × Mem} {v0 : Option Nat} {v1 : Option Nat} {v2 : Int32} (h : L_X8_make v0 v1 v2 M = some z) : KC M z.2 := by
  unfold L_X8_make at h
  have hg : KC M M := KC.rf
  obtain ⟨_, hw, h⟩ := bnd h
  have hg := hg.trans (kc_pR (by decide) hw)
  rcases itor h with h | h
  · exact hg.trans (keepJ_X8_make_15 h)
  · exact hg.trans (keepJ_X8_make_15 h)
theorem keepJ_X1_renew_70 {M : Mem} {z : Int32 × Mem} {k_19 : Option Nat → Int32 → Int32 → Int32 → Mem → Option (Int32 × Mem)} (hk_19 : ∀ (v0 : Option Nat) (v1 : Int32) (v2 : Int32) (v3 : Int32) (Ma : Mem), k_19 v0 v1 v2 v3 Ma = some z → KC Ma z.2) {v0 : Option Nat} {v1 : Int32} {v2 : Int32} {v3 : Int32} (h : J_X1_renew_70 k_19 v0 v1 v2 v3 M = some z) : KC M z.2 := by
  unfold J_X1_renew_70 at h
  have hg : KC M M := KC.rf
  exact hg.trans (hk_19 _ _ _ _ _ h)
theorem keepJ_X1_renew_68 {M : Mem} {z : Int32 × Mem} {k_19 : Option Nat → Int32 → Int32 → Int32 → Mem → Option (Int32 × Mem)} (hk_19 : ∀ (v0 : Option Nat) (v1 : Int32) (v2 : Int32) (v3 : Int32) (Ma : Mem), k_19 v0 v1 v2 v3 Ma = some z → KC Ma z.2) {v0 : Option Nat} {v1 : Int32} {v3 : Int32} {s0 : Int32} {s1 : Int32} (h : J_X1_renew_68 k_19 v0 v1 v3 s0 s1 M = some z) : KC M z.2 := by
  unfold J_X1_renew_68 at h
  have hg : KC M M := KC.rf
  exact hg.trans (keepJ_X1_renew_70 hk_19 h)
theorem keepJ_X1_renew_19 {z : Int32 × Mem} : ∀ (n : Nat) (v0 : Option Nat) (v1 : Int32) (v2 : Int32) (v3 : Int32) (M : Mem), J_X1_renew_19 n v0 v1 v2 v3 M = some z → KC M z.2 := by
  intro n
  induction n with
  | zero => intro v0 v1 v2 v3 M h; exact nomatch h
  | succ n ih =>
    intro v0 v1 v2 v3 M h
    unfold J_X1_renew_19 at h
    have hg : KC M M := KC.rf
    rcases itor h with h | h
    · obtain ⟨_, hw, h⟩ := bnd h
      have hg := hg.trans (kc_pI hw)
      cases h; exact hg
    · rcases itor h with h | h
      · exact hg.trans (keepJ_X1_renew_70 ih h)
      · obtain ⟨_, -, h⟩ := bnd h
        obtain ⟨_, -, h⟩ := bnd h
        obtain ⟨_, -, h⟩ := bnd h
        obtain ⟨_, -, h⟩ := bnd h
        obtain ⟨_, -, h⟩ := bnd h
        obtain ⟨_, -, h⟩ := bnd h
        obtain ⟨w50, hw, h⟩ := bnd h
        have hg := hg.trans (keep_X8_make hw)
        obtain ⟨_, -, h⟩ := bnd h
        obtain ⟨_, -, h⟩ := bnd h
        rcases itor h with h | h
        · exact hg.trans (keepJ_X1_renew_68 ih h)
        · exact hg.trans (keepJ_X1_renew_68 ih h)
theorem keep_X1_renew {M : Mem} {z : Int32 × Mem} {v0 : Option Nat} (h : L_X1_renew v0 M = some z) : KC M z.2 := by
  unfold L_X1_renew at h
  have hg : KC M M := KC.rf
  obtain ⟨_, -, h⟩ := bnd h
  obtain ⟨w1, hw, h⟩ := bnd h
  have hg := hg.trans (keep_X1_touchedYears hw)
  obtain ⟨_, -, h⟩ := bnd h
  obtain ⟨_, hw, h⟩ := bnd h
  have hg := hg.trans (kc_pI hw)
  exact hg.trans (keepJ_X1_renew_19 FU _ _ _ _ _ h)
theorem keepJ_X6_indexOf_39 {z : Int32 × Mem} : ∀ (n : Nat) (v2 : Int64) (v4 : Option Nat) (v5 : Int32) (M : Mem), J_X6_indexOf_39 n v2 v4 v5 M = some z → KC M z.2 := by
  intro n
  induction n with
  | zero => intro v2 v4 v5 M h; exact nomatch h
  | succ n ih =>
    intro v2 v4 v5 M h
    unfold J_X6_indexOf_39 at h
    have hg : KC M M := KC.rf
    obtain ⟨_, -, h⟩ := bnd h
    rcases itor h with h | h
    · cases h; exact hg
    · obtain ⟨_, -, h⟩ := bnd h
      rcases itor h with h | h
      · exact hg.trans (ih _ _ _ _ h)
      · cases h; exact hg
theorem keepJ_X6_indexOf_34 {M : Mem} {z : Int32 × Mem} {v2 : Int64} {s0 : Option Nat} (h : J_X6_indexOf_34 v2 s0 M = some z) : KC M z.2 := by
  unfold J_X6_indexOf_34 at h
  have hg : KC M M := KC.rf
  exact hg.trans (keepJ_X6_indexOf_39 FU _ _ _ _ h)
theorem keep_X6_indexOf {M : Mem} {z : Int32 × Mem} {v0 : Option Nat} {v1 : Int32} {v2 : Int64} (h : L_X6_indexOf v0 v1 v2 M = some z) : KC M z.2 := by
  unfold L_X6_indexOf at h
  have hg : KC M M := KC.rf
  rcases itor h with h | h
  · rcases itor h with h | h
    · obtain ⟨_, -, h⟩ := bnd h
      exact hg.trans (keepJ_X6_indexOf_34 h)
    · obtain ⟨_, -, h⟩ := bnd h
      exact hg.trans (keepJ_X6_indexOf_34 h)
  · obtain ⟨_, -, h⟩ := bnd h
    rcases itor h with h | h
    · cases h; exact hg
    · cases h; exact hg
theorem keepJ_X1_find_17 {z : Int32 × Mem} : ∀ (n : Nat) (v0 : Option Nat) (v1 : Int32) (v4 : Int64) (v6 : Int32) (v7 : Int32) (M : Mem), J_X1_find_17 n v0 v1 v4 v6 v7 M = some z → KC M z.2 := by
  intro n
  induction n with
  | zero => intro v0 v1 v4 v6 v7 M h; exact nomatch h
  | succ n ih =>
    intro v0 v1 v4 v6 v7 M h
    unfold J_X1_find_17 at h
    have hg : KC M M := KC.rf
    rcases itor h with h | h
    · cases h; exact hg
    · rcases itor h with h | h
      · cases h; exact hg
      · rcases itor h with h | h
        · cases h; exact hg
        · obtain ⟨_, -, h⟩ := bnd h
          obtain ⟨_, -, h⟩ := bnd h
          obtain ⟨_, -, h⟩ := bnd h
          rcases itor h with h | h
          · obtain ⟨_, -, h⟩ := bnd h
            obtain ⟨w60, hw, h⟩ := bnd h
            have hg := hg.trans (keep_X6_indexOf hw)
            rcases itor h with h | h
            · obtain ⟨_, -, h⟩ := bnd h
              exact hg.trans (ih _ _ _ _ _ _ h)
            · cases h; exact hg
          · cases h; exact hg
theorem keep_X1_find {M : Mem} {z : Int32 × Mem} {v0 : Option Nat} {v1 : Int32} {v2 : Int64} (h : L_X1_find v0 v1 v2 M = some z) : KC M z.2 := by
  unfold L_X1_find at h
  have hg : KC M M := KC.rf
  exact hg.trans (keepJ_X1_find_17 FU _ _ _ _ _ _ h)
theorem keep_X3_open {M : Mem} {z : Unit × Mem} {v0 : Option Nat} {v1 : Int32} {v2 : Option Nat} {v3 : Int32} {v4 : Int32} (h : L_X3_open v0 v1 v2 v3 v4 M = some z) : KC M z.2 := by
  unfold L_X3_open at h
  have hg : KC M M := KC.rf
  obtain ⟨_, -, h⟩ := bnd h
  rcases itor h with h | h
  · obtain ⟨_, -, h⟩ := bnd h
    obtain ⟨_, -, h⟩ := bnd h
    obtain ⟨_, -, h⟩ := bnd h
    obtain ⟨_, hw, h⟩ := bnd h
    have hg := hg.trans (kc_pI hw)
    obtain ⟨_, hw, h⟩ := bnd h
    have hg := hg.trans (kc_pR (by decide) hw)
    obtain ⟨_, hw, h⟩ := bnd h
    have hg := hg.trans (kc_pI hw)
    obtain ⟨_, -, h⟩ := bnd h
    obtain ⟨_, hw, h⟩ := bnd h
    have hg := hg.trans (kc_pI hw)
    obtain ⟨_, hw, h⟩ := bnd h
    have hg := hg.trans (kc_pI hw)
    obtain ⟨_, hw, h⟩ := bnd h
    have hg := hg.trans (kc_pZ hw)
    obtain ⟨_, -, h⟩ := bnd h
    obtain ⟨_, hw, h⟩ := bnd h
    have hg := hg.trans (kc_pI hw)
    cases h; exact hg
  · cases h; exact hg
theorem keepJ_X3_demand_86 {M : Mem} {z : Int32 × Mem} {v0 : Option Nat} {v1 : Int32} {v2 : Option Nat} (h : J_X3_demand_86 v0 v1 v2 M = some z) : KC M z.2 := by
  unfold J_X3_demand_86 at h
  have hg : KC M M := KC.rf
  obtain ⟨_, -, h⟩ := bnd h
  obtain ⟨_, hw, h⟩ := bnd h
  have hg := hg.trans (kc_pI hw)
  obtain ⟨_, -, h⟩ := bnd h
  obtain ⟨_, -, h⟩ := bnd h
  obtain ⟨w104, hw, h⟩ := bnd h
  have hg := hg.trans (keep_X3_open hw)
  cases h; exact hg
theorem keep_X3_demand {M : Mem} {z : Int32 × Mem} {v0 : Option Nat} {v1 : Int32} (h : L_X3_demand v0 v1 M = some z) : KC M z.2 := by
  unfold L_X3_demand at h
  have hg : KC M M := KC.rf
  rcases itor h with h | h
  · cases h; exact hg
  · rcases itor h with h | h
    · cases h; exact hg
    · obtain ⟨_, -, h⟩ := bnd h
      obtain ⟨_, -, h⟩ := bnd h
      obtain ⟨_, -, h⟩ := bnd h
      obtain ⟨_, -, h⟩ := bnd h
      rcases itor h with h | h
      · obtain ⟨_, -, h⟩ := bnd h
        obtain ⟨_, -, h⟩ := bnd h
        obtain ⟨_, -, h⟩ := bnd h
        obtain ⟨_, -, h⟩ := bnd h
        rcases itor h with h | h
        · obtain ⟨_, -, h⟩ := bnd h
          rcases itor h with h | h
          · obtain ⟨_, hw, h⟩ := bnd h
            have hg := hg.trans (kc_pI hw)
            obtain ⟨_, -, h⟩ := bnd h
            rcases itor h with h | h
            · exact hg.trans (keepJ_X3_demand_86 h)
            · obtain ⟨_, -, h⟩ := bnd h
              obtain ⟨_, -, h⟩ := bnd h
              obtain ⟨_, hw, h⟩ := bnd h
              have hg := hg.trans (kc_uI hw)
              exact hg.trans (keepJ_X3_demand_86 h)
          · cases h; exact hg
        · cases h; exact hg
      · cases h; exact hg
theorem keepJ_X3_finish_23 {M : Mem} {z : Int32 × Mem} {v0 : Option Nat} (h : J_X3_finish_23 v0 M = some z) : KC M z.2 := by
  unfold J_X3_finish_23 at h
  have hg : KC M M := KC.rf
  obtain ⟨_, -, h⟩ := bnd h
  obtain ⟨_, hw, h⟩ := bnd h
  have hg := hg.trans (kc_pI hw)
  cases h; exact hg
theorem keep_X3_finish {M : Mem} {z : Int32 × Mem} {v0 : Option Nat} {v1 : Option Nat} (h : L_X3_finish v0 v1 M = some z) : KC M z.2 := by
  unfold L_X3_finish at h
  have hg : KC M M := KC.rf
  obtain ⟨_, -, h⟩ := bnd h
  rcases itor h with h | h
  · exact hg.trans (keepJ_X3_finish_23 h)
  · obtain ⟨_, -, h⟩ := bnd h
    obtain ⟨_, -, h⟩ := bnd h
    obtain ⟨_, -, h⟩ := bnd h
    obtain ⟨_, -, h⟩ := bnd h
    obtain ⟨_, hw, h⟩ := bnd h
    have hg := hg.trans (kc_pI hw)
    exact hg.trans (keepJ_X3_finish_23 h)
theorem keep_X3_push {M : Mem} {z : Int32 × Mem} {v0 : Option Nat} {v1 : Int64} (h : L_X3_push v0 v1 M = some z) : KC M z.2 := by
  unfold L_X3_push at h
  have hg : KC M M := KC.rf
  obtain ⟨_, -, h⟩ := bnd h
  obtain ⟨_, -, h⟩ := bnd h
  obtain ⟨_, -, h⟩ := bnd h
  rcases itor h with h | h
  · cases h; exact hg
  · obtain ⟨_, -, h⟩ := bnd h
    obtain ⟨_, -, h⟩ := bnd h
    obtain ⟨_, hw, h⟩ := bnd h
    have hg := hg.trans (kc_uL hw)
    obtain ⟨_, -, h⟩ := bnd h
    obtain ⟨_, hw, h⟩ := bnd h
    have hg := hg.trans (kc_pI hw)
    cases h; exact hg
theorem keep_X8_valueOf {M : Mem} {z : Int64 × Mem} {v0 : Option Nat} {v1 : Int32} (h : L_X8_valueOf v0 v1 M = some z) : KC M z.2 := by
  unfold L_X8_valueOf at h
  have hg : KC M M := KC.rf
  obtain ⟨_, -, h⟩ := bnd h
  rcases itor h with h | h
  · cases h; exact hg
  · rcases itor h with h | h
    · cases h; exact hg
    · obtain ⟨_, -, h⟩ := bnd h
      obtain ⟨_, -, h⟩ := bnd h
      obtain ⟨_, -, h⟩ := bnd h
      rcases itor h with h | h
      · cases h; exact hg
      · obtain ⟨_, -, h⟩ := bnd h
        obtain ⟨_, -, h⟩ := bnd h
        rcases itor h with h | h
        · obtain ⟨_, -, h⟩ := bnd h
          obtain ⟨_, -, h⟩ := bnd h
          cases h; exact hg
        · cases h; exact hg
theorem keep_X3_readConst {M : Mem} {z : Int32 × Mem} {v0 : Option Nat} {v1 : Int64} (h : L_X3_readConst v0 v1 M = some z) : KC M z.2 := by
  unfold L_X3_readConst at h
  have hg : KC M M := KC.rf
  obtain ⟨_, -, h⟩ := bnd h
  obtain ⟨_, -, h⟩ := bnd h
  obtain ⟨w6, hw, h⟩ := bnd h
  have hg := hg.trans (keep_X1_find hw)
  rcases itor h with h | h
  · obtain ⟨_, -, h⟩ := bnd h
    obtain ⟨_, -, h⟩ := bnd h
    have h := nnz h
    obtain ⟨_, -, h⟩ := bnd h
    have h := nnz h
    obtain ⟨_, -, h⟩ := bnd h
    obtain ⟨w35, hw, h⟩ := bnd h
    have hg := hg.trans (keep_X8_valueOf hw)
    rcases itor h with h | h
    · obtain ⟨_, -, h⟩ := bnd h
      obtain ⟨w58, hw, h⟩ := bnd h
      have hg := hg.trans (keep_X3_push hw)
      cases h; exact hg
    · cases h; exact hg
  · cases h; exact hg
theorem keep_X3_pop {M : Mem} {z : Int64 × Mem} {v0 : Option Nat} (h : L_X3_pop v0 M = some z) : KC M z.2 := by
  unfold L_X3_pop at h
  have hg : KC M M := KC.rf
  obtain ⟨_, -, h⟩ := bnd h
  rcases itor h with h | h
  · obtain ⟨_, -, h⟩ := bnd h
    obtain ⟨_, hw, h⟩ := bnd h
    have hg := hg.trans (kc_pI hw)
    obtain ⟨_, -, h⟩ := bnd h
    obtain ⟨_, -, h⟩ := bnd h
    obtain ⟨_, -, h⟩ := bnd h
    cases h; exact hg
  · cases h; exact hg
theorem keep_X8_hasEntry {M : Mem} {z : Int32 × Mem} {v0 : Option Nat} {v1 : Int32} {v2 : Int64} (h : L_X8_hasEntry v0 v1 v2 M = some z) : KC M z.2 := by
  unfold L_X8_hasEntry at h
  have hg : KC M M := KC.rf
  obtain ⟨_, -, h⟩ := bnd h
  rcases itor h with h | h
  · obtain ⟨_, -, h⟩ := bnd h
    cases h; exact hg
  · rcases itor h with h | h
    · obtain ⟨_, -, h⟩ := bnd h
      cases h; exact hg
    · obtain ⟨_, -, h⟩ := bnd h
      obtain ⟨_, -, h⟩ := bnd h
      obtain ⟨_, -, h⟩ := bnd h
      rcases itor h with h | h
      · obtain ⟨_, -, h⟩ := bnd h
        cases h; exact hg
      · rcases itor h with h | h
        · obtain ⟨_, -, h⟩ := bnd h
          cases h; exact hg
        · obtain ⟨_, -, h⟩ := bnd h
          obtain ⟨_, -, h⟩ := bnd h
          obtain ⟨_, -, h⟩ := bnd h
          rcases itor h with h | h
          · obtain ⟨_, -, h⟩ := bnd h
            cases h; exact hg
          · obtain ⟨_, -, h⟩ := bnd h
            cases h; exact hg
theorem keepJ_X3_pushEntry_42 {M : Mem} {z : Int32 × Mem} {v0 : Option Nat} {v1 : Option Nat} {v2 : Int32} {v4 : Int64} (h : J_X3_pushEntry_42 v0 v1 v2 v4 M = some z) : KC M z.2 := by
  unfold J_X3_pushEntry_42 at h
  have hg : KC M M := KC.rf
  obtain ⟨_, -, h⟩ := bnd h
  obtain ⟨_, -, h⟩ := bnd h
  obtain ⟨_, -, h⟩ := bnd h
  obtain ⟨w56, hw, h⟩ := bnd h
  have hg := hg.trans (keep_X3_push hw)
  cases h; exact hg
theorem keep_X3_pushEntry {M : Mem} {z : Int32 × Mem} {v0 : Option Nat} {v1 : Option Nat} {v2 : Int32} {v3 : Int32} (h : L_X3_pushEntry v0 v1 v2 v3 M = some z) : KC M z.2 := by
  unfold L_X3_pushEntry at h
  have hg : KC M M := KC.rf
  obtain ⟨_, -, h⟩ := bnd h
  obtain ⟨w1, hw, h⟩ := bnd h
  have hg := hg.trans (keep_X3_pop hw)
  obtain ⟨_, -, h⟩ := bnd h
  obtain ⟨w10, hw, h⟩ := bnd h
  have hg := hg.trans (keep_X8_hasEntry hw)
  rcases itor h with h | h
  · rcases itor h with h | h
    · exact hg.trans (keepJ_X3_pushEntry_42 h)
    · obtain ⟨_, -, h⟩ := bnd h
      rcases itor h with h | h
      · exact hg.trans (keepJ_X3_pushEntry_42 h)
      · obtain ⟨_, -, h⟩ := bnd h
        obtain ⟨_, hw, h⟩ := bnd h
        have hg := hg.trans (kc_pI hw)
        exact hg.trans (keepJ_X3_pushEntry_42 h)
  · cases h; exact hg
theorem keepJ_X3_readEntry_123 {M : Mem} {z : Int32 × Mem} {s0 : Option Nat} {s1 : Option Nat} {s2 : Int32} {s3 : Int32} (h : J_X3_readEntry_123 s0 s1 s2 s3 M = some z) : KC M z.2 := by
  unfold J_X3_readEntry_123 at h
  have hg : KC M M := KC.rf
  obtain ⟨_, -, h⟩ := bnd h
  obtain ⟨w123, hw, h⟩ := bnd h
  have hg := hg.trans (keep_X3_pushEntry hw)
  cases h; exact hg
theorem keepJ_X3_readEntry_83 {M : Mem} {z : Int32 × Mem} {v0 : Option Nat} {v1 : Option Nat} {v6 : Int32} {v7 : Int32} {s0 : Int32} (h : J_X3_readEntry_83 v0 v1 v6 v7 s0 M = some z) : KC M z.2 := by
  unfold J_X3_readEntry_83 at h
  have hg : KC M M := KC.rf
  rcases itor h with h | h
  · obtain ⟨_, -, h⟩ := bnd h
    obtain ⟨_, -, h⟩ := bnd h
    obtain ⟨_, -, h⟩ := bnd h
    have h := nnz h
    obtain ⟨_, -, h⟩ := bnd h
    rcases itor h with h | h
    · exact hg.trans (keepJ_X3_readEntry_123 h)
    · exact hg.trans (keepJ_X3_readEntry_123 h)
  · cases h; exact hg
theorem keepJ_X3_readEntry_26 {M : Mem} {z : Int32 × Mem} {v0 : Option Nat} {v1 : Option Nat} {v2 : Int64} {s0 : Int32} (h : J_X3_readEntry_26 v0 v1 v2 s0 M = some z) : KC M z.2 := by
  unfold J_X3_readEntry_26 at h
  have hg : KC M M := KC.rf
  rcases itor h with h | h
  · obtain ⟨_, -, h⟩ := bnd h
    obtain ⟨_, -, h⟩ := bnd h
    obtain ⟨w42, hw, h⟩ := bnd h
    have hg := hg.trans (keep_X1_find hw)
    rcases itor h with h | h
    · have h := nnz h
      obtain ⟨_, -, h⟩ := bnd h
      rcases itor h with h | h
      · obtain ⟨_, -, h⟩ := bnd h
        obtain ⟨w80, hw, h⟩ := bnd h
        have hg := hg.trans (keep_X3_demand hw)
        exact hg.trans (keepJ_X3_readEntry_83 h)
      · exact hg.trans (keepJ_X3_readEntry_83 h)
    · cases h; exact hg
  · cases h; exact hg
theorem keep_X3_readEntry {M : Mem} {z : Int32 × Mem} {v0 : Option Nat} {v1 : Option Nat} {v2 : Int64} (h : L_X3_readEntry v0 v1 v2 M = some z) : KC M z.2 := by
  unfold L_X3_readEntry at h
  have hg : KC M M := KC.rf
  obtain ⟨_, -, h⟩ := bnd h
  rcases itor h with h | h
  · obtain ⟨_, -, h⟩ := bnd h
    obtain ⟨w23, hw, h⟩ := bnd h
    have hg := hg.trans (keep_X3_demand hw)
    exact hg.trans (keepJ_X3_readEntry_26 h)
  · exact hg.trans (keepJ_X3_readEntry_26 h)
theorem keepJ_X3_storeEntry_56 {M : Mem} {z : Int32 × Mem} {v1 : Option Nat} {v2 : Int32} {v3 : Option Nat} {v4 : Int32} (h : J_X3_storeEntry_56 v1 v2 v3 v4 M = some z) : KC M z.2 := by
  unfold J_X3_storeEntry_56 at h
  have hg : KC M M := KC.rf
  obtain ⟨_, -, h⟩ := bnd h
  obtain ⟨_, hw, h⟩ := bnd h
  have hg := hg.trans (kc_pI hw)
  obtain ⟨_, -, h⟩ := bnd h
  obtain ⟨_, -, h⟩ := bnd h
  obtain ⟨w74, hw, h⟩ := bnd h
  have hg := hg.trans (keep_X8_hasEntry hw)
  rcases itor h with h | h
  · have h := nnz h
    obtain ⟨_, hw, h⟩ := bnd h
    have hg := hg.trans (kc_pI hw)
    cases h; exact hg
  · cases h; exact hg
theorem keep_X3_storeEntry {M : Mem} {z : Int32 × Mem} {v0 : Option Nat} {v1 : Option Nat} {v2 : Int32} (h : L_X3_storeEntry v0 v1 v2 M = some z) : KC M z.2 := by
  unfold L_X3_storeEntry at h
  have hg : KC M M := KC.rf
  obtain ⟨_, -, h⟩ := bnd h
  obtain ⟨_, -, h⟩ := bnd h
  obtain ⟨_, -, h⟩ := bnd h
  obtain ⟨_, -, h⟩ := bnd h
  have h := nnz h
  obtain ⟨_, -, h⟩ := bnd h
  obtain ⟨w20, hw, h⟩ := bnd h
  have hg := hg.trans (keep_X3_pop hw)
  obtain ⟨_, -, h⟩ := bnd h
  obtain ⟨_, -, h⟩ := bnd h
  obtain ⟨w33, hw, h⟩ := bnd h
  have hg := hg.trans (keep_X8_hasEntry hw)
  rcases itor h with h | h
  · exact hg.trans (keepJ_X3_storeEntry_56 h)
  · obtain ⟨_, -, h⟩ := bnd h
    obtain ⟨_, -, h⟩ := bnd h
    obtain ⟨_, hw, h⟩ := bnd h
    have hg := hg.trans (kc_uL hw)
    exact hg.trans (keepJ_X3_storeEntry_56 h)
theorem keepJ_X3_calculate_138 {M : Mem} {z : Int32 × Mem} {s0 : Option Nat} {s1 : Int64} (h : J_X3_calculate_138 s0 s1 M = some z) : KC M z.2 := by
  unfold J_X3_calculate_138 at h
  have hg : KC M M := KC.rf
  obtain ⟨_, -, h⟩ := bnd h
  obtain ⟨w138, hw, h⟩ := bnd h
  have hg := hg.trans (keep_X3_push hw)
  cases h; exact hg
theorem keepJ_X3_calculate_155 {M : Mem} {z : Int32 × Mem} {s0 : Option Nat} {s1 : Int64} (h : J_X3_calculate_155 s0 s1 M = some z) : KC M z.2 := by
  unfold J_X3_calculate_155 at h
  have hg : KC M M := KC.rf
  obtain ⟨_, -, h⟩ := bnd h
  obtain ⟨w155, hw, h⟩ := bnd h
  have hg := hg.trans (keep_X3_push hw)
  cases h; exact hg
theorem keepJ_X3_calculate_172 {M : Mem} {z : Int32 × Mem} {s0 : Option Nat} {s1 : Int64} (h : J_X3_calculate_172 s0 s1 M = some z) : KC M z.2 := by
  unfold J_X3_calculate_172 at h
  have hg : KC M M := KC.rf
  obtain ⟨_, -, h⟩ := bnd h
  obtain ⟨w172, hw, h⟩ := bnd h
  have hg := hg.trans (keep_X3_push hw)
  cases h; exact hg
theorem keep_X3_calculate {M : Mem} {z : Int32 × Mem} {v0 : Option Nat} {v1 : Int32} (h : L_X3_calculate v0 v1 M = some z) : KC M z.2 := by
  unfold L_X3_calculate at h
  have hg : KC M M := KC.rf
  obtain ⟨_, -, h⟩ := bnd h
  obtain ⟨w1, hw, h⟩ := bnd h
  have hg := hg.trans (keep_X3_pop hw)
  obtain ⟨_, -, h⟩ := bnd h
  obtain ⟨w6, hw, h⟩ := bnd h
  have hg := hg.trans (keep_X3_pop hw)
  rcases itor h with h | h
  · obtain ⟨_, -, h⟩ := bnd h
    obtain ⟨w61, hw, h⟩ := bnd h
    have hg := hg.trans (keep_X3_push hw)
    cases h; exact hg
  rcases itor h with h | h
  · obtain ⟨_, -, h⟩ := bnd h
    obtain ⟨w70, hw, h⟩ := bnd h
    have hg := hg.trans (keep_X3_push hw)
    cases h; exact hg
  rcases itor h with h | h
  · obtain ⟨_, -, h⟩ := bnd h
    obtain ⟨w79, hw, h⟩ := bnd h
    have hg := hg.trans (keep_X3_push hw)
    cases h; exact hg
  rcases itor h with h | h
  · rcases itor h with h | h
    · have h := nnz h
      obtain ⟨_, -, h⟩ := bnd h
      obtain ⟨w100, hw, h⟩ := bnd h
      have hg := hg.trans (keep_X3_push hw)
      cases h; exact hg
    · cases h; exact hg
  rcases itor h with h | h
  · rcases itor h with h | h
    · have h := nnz h
      obtain ⟨_, -, h⟩ := bnd h
      obtain ⟨w121, hw, h⟩ := bnd h
      have hg := hg.trans (keep_X3_push hw)
      cases h; exact hg
    · cases h; exact hg
  rcases itor h with h | h
  · rcases itor h with h | h
    · exact hg.trans (keepJ_X3_calculate_138 h)
    · exact hg.trans (keepJ_X3_calculate_138 h)
  rcases itor h with h | h
  · rcases itor h with h | h
    · exact hg.trans (keepJ_X3_calculate_155 h)
    · exact hg.trans (keepJ_X3_calculate_155 h)
  rcases itor h with h | h
  · exact hg.trans (keepJ_X3_calculate_172 h)
  · exact hg.trans (keepJ_X3_calculate_172 h)
theorem keepJ_X3_advance_22 {M : Mem} {z : Int32 × Mem} {v0 : Option Nat} {v1 : Option Nat} (h : J_X3_advance_22 v0 v1 M = some z) : KC M z.2 := by
  unfold J_X3_advance_22 at h
  have hg : KC M M := KC.rf
  obtain ⟨_, -, h⟩ := bnd h
  obtain ⟨w24, hw, h⟩ := bnd h
  have hg := hg.trans (keep_X3_finish hw)
  cases h; exact hg
theorem keepJ_X3_advance_201 {M : Mem} {z : Int32 × Mem} {s0 : Option Nat} {s1 : Int64} (h : J_X3_advance_201 s0 s1 M = some z) : KC M z.2 := by
  unfold J_X3_advance_201 at h
  have hg : KC M M := KC.rf
  obtain ⟨_, -, h⟩ := bnd h
  obtain ⟨w201, hw, h⟩ := bnd h
  have hg := hg.trans (keep_X3_push hw)
  cases h; exact hg
theorem keepJ_X3_advance_200 {M : Mem} {z : Int32 × Mem} {s0 : Option Nat} (h : J_X3_advance_200 s0 M = some z) : KC M z.2 := by
  unfold J_X3_advance_200 at h
  have hg : KC M M := KC.rf
  exact hg.trans (keepJ_X3_advance_201 h)
theorem keepJ_X3_advance_257 {M : Mem} {z : Int32 × Mem} {s0 : Option Nat} {s1 : Int32} (h : J_X3_advance_257 s0 s1 M = some z) : KC M z.2 := by
  unfold J_X3_advance_257 at h
  have hg : KC M M := KC.rf
  obtain ⟨_, hw, h⟩ := bnd h
  have hg := hg.trans (kc_pI hw)
  cases h; exact hg
theorem keepJ_X3_advance_326 {M : Mem} {z : Int32 × Mem} {v0 : Option Nat} {v2 : Int32} (h : J_X3_advance_326 v0 v2 M = some z) : KC M z.2 := by
  unfold J_X3_advance_326 at h
  have hg : KC M M := KC.rf
  obtain ⟨_, -, h⟩ := bnd h
  obtain ⟨w328, hw, h⟩ := bnd h
  have hg := hg.trans (keep_X3_calculate hw)
  cases h; exact hg
theorem keep_X3_advance {M : Mem} {z : Int32 × Mem} {v0 : Option Nat} {v1 : Option Nat} (h : L_X3_advance v0 v1 M = some z) : KC M z.2 := by
  unfold L_X3_advance at h
  have hg : KC M M := KC.rf
  obtain ⟨_, -, h⟩ := bnd h
  rcases itor h with h | h
  · exact hg.trans (keepJ_X3_advance_22 h)
  · obtain ⟨_, -, h⟩ := bnd h
    obtain ⟨_, -, h⟩ := bnd h
    obtain ⟨_, -, h⟩ := bnd h
    obtain ⟨_, -, h⟩ := bnd h
    rcases itor h with h | h
    · obtain ⟨_, -, h⟩ := bnd h
      obtain ⟨_, -, h⟩ := bnd h
      obtain ⟨_, -, h⟩ := bnd h
      obtain ⟨_, -, h⟩ := bnd h
      obtain ⟨_, -, h⟩ := bnd h
      obtain ⟨_, -, h⟩ := bnd h
      obtain ⟨_, -, h⟩ := bnd h
      obtain ⟨_, -, h⟩ := bnd h
      rcases itor h with h | h
      · obtain ⟨_, -, h⟩ := bnd h
        obtain ⟨w158, hw, h⟩ := bnd h
        have hg := hg.trans (keep_X3_push hw)
        cases h; exact hg
      rcases itor h with h | h
      · obtain ⟨_, -, h⟩ := bnd h
        obtain ⟨_, -, h⟩ := bnd h
        obtain ⟨w168, hw, h⟩ := bnd h
        have hg := hg.trans (keep_X3_push hw)
        cases h; exact hg
      rcases itor h with h | h
      · rcases itor h with h | h
        · exact hg.trans (keepJ_X3_advance_200 h)
        · obtain ⟨_, -, h⟩ := bnd h
          obtain ⟨_, -, h⟩ := bnd h
          rcases itor h with h | h
          · exact hg.trans (keepJ_X3_advance_200 h)
          · obtain ⟨_, -, h⟩ := bnd h
            obtain ⟨_, -, h⟩ := bnd h
            exact hg.trans (keepJ_X3_advance_201 h)
      rcases itor h with h | h
      · obtain ⟨_, -, h⟩ := bnd h
        obtain ⟨w207, hw, h⟩ := bnd h
        have hg := hg.trans (keep_X3_readConst hw)
        cases h; exact hg
      rcases itor h with h | h
      · obtain ⟨_, -, h⟩ := bnd h
        obtain ⟨w214, hw, h⟩ := bnd h
        have hg := hg.trans (keep_X3_readEntry hw)
        cases h; exact hg
      rcases itor h with h | h
      · obtain ⟨_, -, h⟩ := bnd h
        obtain ⟨w220, hw, h⟩ := bnd h
        have hg := hg.trans (keep_X3_pop hw)
        obtain ⟨_, -, h⟩ := bnd h
        obtain ⟨w224, hw, h⟩ := bnd h
        have hg := hg.trans (keep_X3_push hw)
        cases h; exact hg
      rcases itor h with h | h
      · obtain ⟨_, hw, h⟩ := bnd h
        have hg := hg.trans (kc_pI hw)
        cases h; exact hg
      rcases itor h with h | h
      · obtain ⟨_, -, h⟩ := bnd h
        obtain ⟨w238, hw, h⟩ := bnd h
        have hg := hg.trans (keep_X3_pop hw)
        rcases itor h with h | h
        · obtain ⟨_, -, h⟩ := bnd h
          exact hg.trans (keepJ_X3_advance_257 h)
        · exact hg.trans (keepJ_X3_advance_257 h)
      rcases itor h with h | h
      · obtain ⟨_, -, h⟩ := bnd h
        obtain ⟨w265, hw, h⟩ := bnd h
        have hg := hg.trans (keep_X3_demand hw)
        cases h; exact hg
      rcases itor h with h | h
      · obtain ⟨_, hw, h⟩ := bnd h
        have hg := hg.trans (kc_pI hw)
        cases h; exact hg
      rcases itor h with h | h
      · obtain ⟨_, -, h⟩ := bnd h
        obtain ⟨w280, hw, h⟩ := bnd h
        have hg := hg.trans (keep_X3_storeEntry hw)
        cases h; exact hg
      rcases itor h with h | h
      · obtain ⟨_, -, h⟩ := bnd h
        obtain ⟨w285, hw, h⟩ := bnd h
        have hg := hg.trans (keep_X3_pop hw)
        rcases itor h with h | h
        · cases h; exact hg
        · cases h; exact hg
      rcases itor h with h | h
      · obtain ⟨_, -, h⟩ := bnd h
        obtain ⟨w302, hw, h⟩ := bnd h
        have hg := hg.trans (keep_X3_pop hw)
        obtain ⟨_, hw, h⟩ := bnd h
        have hg := hg.trans (kc_pL hw)
        obtain ⟨_, -, h⟩ := bnd h
        obtain ⟨_, hw, h⟩ := bnd h
        have hg := hg.trans (kc_pI hw)
        cases h; exact hg
      rcases itor h with h | h
      · obtain ⟨_, -, h⟩ := bnd h
        obtain ⟨w322, hw, h⟩ := bnd h
        have hg := hg.trans (keep_X3_finish hw)
        cases h; exact hg
      exact hg.trans (keepJ_X3_advance_326 h)
    · exact hg.trans (keepJ_X3_advance_22 h)
theorem keepJ_X6_catchAt_39 {M : Mem} {z : Int32 × Mem} {k_8 : Option Nat → Int32 → Int32 → Mem → Option (Int32 × Mem)} (hk_8 : ∀ (v0 : Option Nat) (v1 : Int32) (v2 : Int32) (Ma : Mem), k_8 v0 v1 v2 Ma = some z → KC Ma z.2) {v0 : Option Nat} {v1 : Int32} {v2 : Int32} (h : J_X6_catchAt_39 k_8 v0 v1 v2 M = some z) : KC M z.2 := by
  unfold J_X6_catchAt_39 at h
  have hg : KC M M := KC.rf
  exact hg.trans (hk_8 _ _ _ _ h)
theorem keepJ_X6_catchAt_8 {z : Int32 × Mem} : ∀ (n : Nat) (v0 : Option Nat) (v1 : Int32) (v2 : Int32) (M : Mem), J_X6_catchAt_8 n v0 v1 v2 M = some z → KC M z.2 := by
  intro n
  induction n with
  | zero => intro v0 v1 v2 M h; exact nomatch h
  | succ n ih =>
    intro v0 v1 v2 M h
    unfold J_X6_catchAt_8 at h
    have hg : KC M M := KC.rf
    rcases itor h with h | h
    · cases h; exact hg
    · obtain ⟨_, -, h⟩ := bnd h
      obtain ⟨_, -, h⟩ := bnd h
      rcases itor h with h | h
      · exact hg.trans (keepJ_X6_catchAt_39 ih h)
      · obtain ⟨_, -, h⟩ := bnd h
        obtain ⟨_, -, h⟩ := bnd h
        rcases itor h with h | h
        · exact hg.trans (keepJ_X6_catchAt_39 ih h)
        · obtain ⟨_, -, h⟩ := bnd h
          obtain ⟨_, -, h⟩ := bnd h
          cases h; exact hg
theorem keep_X6_catchAt {M : Mem} {z : Int32 × Mem} {v0 : Option Nat} {v1 : Int32} (h : L_X6_catchAt v0 v1 M = some z) : KC M z.2 := by
  unfold L_X6_catchAt at h
  have hg : KC M M := KC.rf
  obtain ⟨_, -, h⟩ := bnd h
  obtain ⟨_, -, h⟩ := bnd h
  exact hg.trans (keepJ_X6_catchAt_8 FU _ _ _ _ h)
theorem keepJ_X3_unwind_112 {M : Mem} {z : Int32 × Mem} {k_2 : Option Nat → Int32 → Int32 → Mem → Option (Int32 × Mem)} (hk_2 : ∀ (v0 : Option Nat) (v1 : Int32) (v2 : Int32) (Ma : Mem), k_2 v0 v1 v2 Ma = some z → KC Ma z.2) {v0 : Option Nat} {v1 : Int32} {v2 : Int32} (h : J_X3_unwind_112 k_2 v0 v1 v2 M = some z) : KC M z.2 := by
  unfold J_X3_unwind_112 at h
  have hg : KC M M := KC.rf
  obtain ⟨_, -, h⟩ := bnd h
  obtain ⟨_, hw, h⟩ := bnd h
  have hg := hg.trans (kc_pI hw)
  exact hg.trans (hk_2 _ _ _ _ h)
theorem keepJ_X3_unwind_57 {M : Mem} {z : Int32 × Mem} {k_2 : Option Nat → Int32 → Int32 → Mem → Option (Int32 × Mem)} (hk_2 : ∀ (v0 : Option Nat) (v1 : Int32) (v2 : Int32) (Ma : Mem), k_2 v0 v1 v2 Ma = some z → KC Ma z.2) {v0 : Option Nat} {v1 : Int32} {v2 : Int32} {v3 : Option Nat} {s0 : Int32} (h : J_X3_unwind_57 k_2 v0 v1 v2 v3 s0 M = some z) : KC M z.2 := by
  unfold J_X3_unwind_57 at h
  have hg : KC M M := KC.rf
  rcases itor h with h | h
  · obtain ⟨_, -, h⟩ := bnd h
    rcases itor h with h | h
    · exact hg.trans (keepJ_X3_unwind_112 hk_2 h)
    · obtain ⟨_, -, h⟩ := bnd h
      obtain ⟨_, -, h⟩ := bnd h
      obtain ⟨_, -, h⟩ := bnd h
      obtain ⟨_, -, h⟩ := bnd h
      obtain ⟨_, hw, h⟩ := bnd h
      have hg := hg.trans (kc_pI hw)
      obtain ⟨_, -, h⟩ := bnd h
      obtain ⟨_, -, h⟩ := bnd h
      obtain ⟨_, -, h⟩ := bnd h
      obtain ⟨_, -, h⟩ := bnd h
      obtain ⟨_, hw, h⟩ := bnd h
      have hg := hg.trans (kc_pI hw)
      exact hg.trans (keepJ_X3_unwind_112 hk_2 h)
  · obtain ⟨_, hw, h⟩ := bnd h
    have hg := hg.trans (kc_pI hw)
    cases h; exact hg
theorem keepJ_X3_unwind_2 {z : Int32 × Mem} : ∀ (n : Nat) (v0 : Option Nat) (v1 : Int32) (v2 : Int32) (M : Mem), J_X3_unwind_2 n v0 v1 v2 M = some z → KC M z.2 := by
  intro n
  induction n with
  | zero => intro v0 v1 v2 M h; exact nomatch h
  | succ n ih =>
    intro v0 v1 v2 M h
    unfold J_X3_unwind_2 at h
    have hg : KC M M := KC.rf
    rcases itor h with h | h
    · cases h; exact hg
    · obtain ⟨_, -, h⟩ := bnd h
      rcases itor h with h | h
      · cases h; exact hg
      · obtain ⟨_, -, h⟩ := bnd h
        obtain ⟨_, -, h⟩ := bnd h
        obtain ⟨_, -, h⟩ := bnd h
        obtain ⟨_, -, h⟩ := bnd h
        obtain ⟨_, hw, h⟩ := bnd h
        have hg := hg.trans (kc_pI hw)
        obtain ⟨_, -, h⟩ := bnd h
        rcases itor h with h | h
        · exact hg.trans (keepJ_X3_unwind_57 ih h)
        · obtain ⟨_, -, h⟩ := bnd h
          obtain ⟨_, -, h⟩ := bnd h
          obtain ⟨_, -, h⟩ := bnd h
          obtain ⟨w50, hw, h⟩ := bnd h
          have hg := hg.trans (keep_X6_catchAt hw)
          exact hg.trans (keepJ_X3_unwind_57 ih h)
theorem keep_X3_unwind {M : Mem} {z : Int32 × Mem} {v0 : Option Nat} {v1 : Int32} (h : L_X3_unwind v0 v1 M = some z) : KC M z.2 := by
  unfold L_X3_unwind at h
  have hg : KC M M := KC.rf
  exact hg.trans (keepJ_X3_unwind_2 FU _ _ _ _ h)
theorem keepJ_X3_run_67 {M : Mem} {z : Int32 × Mem} {k_4 : Option Nat → Int32 → Int32 → Mem → Option (Int32 × Mem)} (hk_4 : ∀ (v0 : Option Nat) (v1 : Int32) (v2 : Int32) (Ma : Mem), k_4 v0 v1 v2 Ma = some z → KC Ma z.2) {v0 : Option Nat} {v1 : Int32} {v2 : Int32} (h : J_X3_run_67 k_4 v0 v1 v2 M = some z) : KC M z.2 := by
  unfold J_X3_run_67 at h
  have hg : KC M M := KC.rf
  exact hg.trans (hk_4 _ _ _ _ h)
theorem keepJ_X3_run_4 {z : Int32 × Mem} : ∀ (n : Nat) (v0 : Option Nat) (v1 : Int32) (v2 : Int32) (M : Mem), J_X3_run_4 n v0 v1 v2 M = some z → KC M z.2 := by
  intro n
  induction n with
  | zero => intro v0 v1 v2 M h; exact nomatch h
  | succ n ih =>
    intro v0 v1 v2 M h
    unfold J_X3_run_4 at h
    have hg : KC M M := KC.rf
    rcases itor h with h | h
    · cases h; exact hg
    · obtain ⟨_, -, h⟩ := bnd h
      rcases itor h with h | h
      · cases h; exact hg
      · obtain ⟨_, -, h⟩ := bnd h
        obtain ⟨_, -, h⟩ := bnd h
        obtain ⟨_, -, h⟩ := bnd h
        obtain ⟨_, -, h⟩ := bnd h
        obtain ⟨w31, hw, h⟩ := bnd h
        have hg := hg.trans (keep_X3_advance hw)
        rcases itor h with h | h
        · rcases itor h with h | h
          · exact hg.trans (keepJ_X3_run_67 ih h)
          · obtain ⟨_, -, h⟩ := bnd h
            obtain ⟨w63, hw, h⟩ := bnd h
            have hg := hg.trans (keep_X3_unwind hw)
            exact hg.trans (keepJ_X3_run_67 ih h)
        · obtain ⟨_, -, h⟩ := bnd h
          obtain ⟨_, hw, h⟩ := bnd h
          have hg := hg.trans (kc_pI hw)
          exact hg.trans (keepJ_X3_run_67 ih h)
theorem keep_X3_run {M : Mem} {z : Int32 × Mem} {v0 : Option Nat} (h : L_X3_run v0 M = some z) : KC M z.2 := by
  unfold L_X3_run at h
  have hg : KC M M := KC.rf
  exact hg.trans (keepJ_X3_run_4 FU _ _ _ _ h)
theorem keep_X3_summon {M : Mem} {z : Int32 × Mem} {v0 : Option Nat} {v1 : Int32} (h : L_X3_summon v0 v1 M = some z) : KC M z.2 := by
  unfold L_X3_summon at h
  have hg : KC M M := KC.rf
  obtain ⟨_, hw, h⟩ := bnd h
  have hg := hg.trans (kc_pI hw)
  obtain ⟨_, hw, h⟩ := bnd h
  have hg := hg.trans (kc_pI hw)
  obtain ⟨_, -, h⟩ := bnd h
  obtain ⟨w12, hw, h⟩ := bnd h
  have hg := hg.trans (keep_X3_demand hw)
  rcases itor h with h | h
  · cases h; exact hg
  · obtain ⟨_, -, h⟩ := bnd h
    obtain ⟨w22, hw, h⟩ := bnd h
    have hg := hg.trans (keep_X3_run hw)
    cases h; exact hg
theorem keep_X3_prepare {M : Mem} {z : Unit × Mem} {v0 : Option Nat} {v1 : Option Nat} {v2 : Int32} (h : L_X3_prepare v0 v1 v2 M = some z) : KC M z.2 := by
  unfold L_X3_prepare at h
  have hg : KC M M := KC.rf
  obtain ⟨_, -, h⟩ := bnd h
  obtain ⟨_, -, h⟩ := bnd h
  obtain ⟨_, hw, h⟩ := bnd h
  have hg := hg.trans (kc_uL hw)
  obtain ⟨_, -, h⟩ := bnd h
  obtain ⟨_, -, h⟩ := bnd h
  obtain ⟨_, hw, h⟩ := bnd h
  have hg := hg.trans (kc_uL hw)
  obtain ⟨_, -, h⟩ := bnd h
  obtain ⟨_, -, h⟩ := bnd h
  obtain ⟨_, -, h⟩ := bnd h
  obtain ⟨_, hw, h⟩ := bnd h
  have hg := hg.trans (kc_uL hw)
  obtain ⟨_, -, h⟩ := bnd h
  obtain ⟨_, -, h⟩ := bnd h
  obtain ⟨_, -, h⟩ := bnd h
  obtain ⟨_, hw, h⟩ := bnd h
  have hg := hg.trans (kc_uL hw)
  cases h; exact hg
theorem keep_X3_workRule {M : Mem} {z : Int32 × Mem} {v0 : Option Nat} {v1 : Int32} (h : L_X3_workRule v0 v1 M = some z) : KC M z.2 := by
  unfold L_X3_workRule at h
  have hg : KC M M := KC.rf
  obtain ⟨_, -, h⟩ := bnd h
  obtain ⟨_, -, h⟩ := bnd h
  obtain ⟨w10, hw, h⟩ := bnd h
  have hg := hg.trans (keep_X1_find hw)
  rcases itor h with h | h
  · obtain ⟨_, -, h⟩ := bnd h
    obtain ⟨_, -, h⟩ := bnd h
    have h := nnz h
    obtain ⟨_, -, h⟩ := bnd h
    obtain ⟨_, -, h⟩ := bnd h
    rcases itor h with h | h
    · obtain ⟨_, hw, h⟩ := bnd h
      have hg := hg.trans (kc_pI hw)
      obtain ⟨_, hw, h⟩ := bnd h
      have hg := hg.trans (kc_pI hw)
      obtain ⟨_, hw, h⟩ := bnd h
      have hg := hg.trans (kc_pL hw)
      have h := nnz h
      obtain ⟨_, -, h⟩ := bnd h
      obtain ⟨_, -, h⟩ := bnd h
      obtain ⟨w73, hw, h⟩ := bnd h
      have hg := hg.trans (keep_X3_open hw)
      obtain ⟨_, -, h⟩ := bnd h
      obtain ⟨w77, hw, h⟩ := bnd h
      have hg := hg.trans (keep_X3_run hw)
      cases h; exact hg
    · cases h; exact hg
  · cases h; exact hg
theorem keepJ_X3_charge_64 {M : Mem} {z : Int32 × Mem} {k_10 : Option Nat → Option Nat → Int64 → Int32 → Mem → Option (Int32 × Mem)} (hk_10 : ∀ (v0 : Option Nat) (v1 : Option Nat) (v2 : Int64) (v4 : Int32) (Ma : Mem), k_10 v0 v1 v2 v4 Ma = some z → KC Ma z.2) {v0 : Option Nat} {v1 : Option Nat} {v2 : Int64} {v4 : Int32} {v5 : Int32} (h : J_X3_charge_64 k_10 v0 v1 v2 v4 v5 M = some z) : KC M z.2 := by
  unfold J_X3_charge_64 at h
  have hg : KC M M := KC.rf
  rcases itor h with h | h
  · obtain ⟨_, -, h⟩ := bnd h
    obtain ⟨_, -, h⟩ := bnd h
    obtain ⟨_, hw, h⟩ := bnd h
    have hg := hg.trans (kc_uL hw)
    obtain ⟨_, -, h⟩ := bnd h
    exact hg.trans (hk_10 _ _ _ _ _ h)
  · cases h; exact hg
theorem keepJ_X3_charge_96 {M : Mem} {z : Int32 × Mem} {v1 : Option Nat} {v2 : Int64} (h : J_X3_charge_96 v1 v2 M = some z) : KC M z.2 := by
  unfold J_X3_charge_96 at h
  have hg : KC M M := KC.rf
  obtain ⟨_, hw, h⟩ := bnd h
  have hg := hg.trans (kc_pL hw)
  obtain ⟨_, -, h⟩ := bnd h
  obtain ⟨_, hw, h⟩ := bnd h
  have hg := hg.trans (kc_pI hw)
  cases h; exact hg
theorem keepJ_X3_charge_10 {z : Int32 × Mem} : ∀ (n : Nat) (v0 : Option Nat) (v1 : Option Nat) (v2 : Int64) (v4 : Int32) (M : Mem), J_X3_charge_10 n v0 v1 v2 v4 M = some z → KC M z.2 := by
  intro n
  induction n with
  | zero => intro v0 v1 v2 v4 M h; exact nomatch h
  | succ n ih =>
    intro v0 v1 v2 v4 M h
    unfold J_X3_charge_10 at h
    have hg : KC M M := KC.rf
    obtain ⟨_, -, h⟩ := bnd h
    rcases itor h with h | h
    · exact hg.trans (keepJ_X3_charge_96 h)
    · rcases itor h with h | h
      · exact hg.trans (keepJ_X3_charge_96 h)
      · obtain ⟨_, -, h⟩ := bnd h
        obtain ⟨_, -, h⟩ := bnd h
        obtain ⟨_, -, h⟩ := bnd h
        obtain ⟨w34, hw, h⟩ := bnd h
        have hg := hg.trans (keep_X3_summon hw)
        rcases itor h with h | h
        · exact hg.trans (keepJ_X3_charge_64 ih h)
        · obtain ⟨_, -, h⟩ := bnd h
          obtain ⟨w48, hw, h⟩ := bnd h
          have hg := hg.trans (keep_X3_prepare hw)
          obtain ⟨_, -, h⟩ := bnd h
          obtain ⟨_, -, h⟩ := bnd h
          obtain ⟨_, -, h⟩ := bnd h
          obtain ⟨w59, hw, h⟩ := bnd h
          have hg := hg.trans (keep_X3_workRule hw)
          exact hg.trans (keepJ_X3_charge_64 ih h)
theorem keep_X3_charge {M : Mem} {z : Int32 × Mem} {v0 : Option Nat} {v1 : Option Nat} (h : L_X3_charge v0 v1 M = some z) : KC M z.2 := by
  unfold L_X3_charge at h
  have hg : KC M M := KC.rf
  obtain ⟨_, hw, h⟩ := bnd h
  have hg := hg.trans (kc_pI hw)
  exact hg.trans (keepJ_X3_charge_10 FU _ _ _ _ _ h)
theorem keepJ_X7_rowEnd_3 {z : Int32 × Mem} : ∀ (n : Nat) (v0 : Option Nat) (v2 : Int32) (v3 : Int32) (v4 : Int32) (M : Mem), J_X7_rowEnd_3 n v0 v2 v3 v4 M = some z → KC M z.2 := by
  intro n
  induction n with
  | zero => intro v0 v2 v3 v4 M h; exact nomatch h
  | succ n ih =>
    intro v0 v2 v3 v4 M h
    unfold J_X7_rowEnd_3 at h
    have hg : KC M M := KC.rf
    obtain ⟨_, -, h⟩ := bnd h
    rcases itor h with h | h
    · cases h; exact hg
    · obtain ⟨_, -, h⟩ := bnd h
      obtain ⟨_, -, h⟩ := bnd h
      rcases itor h with h | h
      · cases h; exact hg
      · obtain ⟨_, -, h⟩ := bnd h
        obtain ⟨_, -, h⟩ := bnd h
        rcases itor h with h | h
        · cases h; exact hg
        · exact hg.trans (ih _ _ _ _ _ h)
theorem keep_X7_rowEnd {M : Mem} {z : Int32 × Mem} {v0 : Option Nat} {v1 : Int32} {v2 : Int32} {v3 : Int32} (h : L_X7_rowEnd v0 v1 v2 v3 M = some z) : KC M z.2 := by
  unfold L_X7_rowEnd at h
  have hg : KC M M := KC.rf
  exact hg.trans (keepJ_X7_rowEnd_3 FU _ _ _ _ _ h)
theorem keep_X7_add {M : Mem} {z : Unit × Mem} {v0 : Option Nat} {v1 : Int32} {v2 : Int32} {v3 : Int64} (h : L_X7_add v0 v1 v2 v3 M = some z) : KC M z.2 := by
  unfold L_X7_add at h
  have hg : KC M M := KC.rf
  obtain ⟨_, -, h⟩ := bnd h
  obtain ⟨_, -, h⟩ := bnd h
  obtain ⟨_, -, h⟩ := bnd h
  rcases itor h with h | h
  · cases h; exact hg
  · obtain ⟨_, -, h⟩ := bnd h
    obtain ⟨_, -, h⟩ := bnd h
    obtain ⟨_, hw, h⟩ := bnd h
    have hg := hg.trans (kc_uI hw)
    obtain ⟨_, -, h⟩ := bnd h
    obtain ⟨_, -, h⟩ := bnd h
    obtain ⟨_, hw, h⟩ := bnd h
    have hg := hg.trans (kc_uI hw)
    obtain ⟨_, -, h⟩ := bnd h
    obtain ⟨_, -, h⟩ := bnd h
    obtain ⟨_, hw, h⟩ := bnd h
    have hg := hg.trans (kc_uL hw)
    obtain ⟨_, -, h⟩ := bnd h
    obtain ⟨_, hw, h⟩ := bnd h
    have hg := hg.trans (kc_pI hw)
    cases h; exact hg
theorem keep_X7_withLetter {M : Mem} {z : Int64 × Mem} {v0 : Int64} {v2 : Int32} (h : L_X7_withLetter v0 v2 M = some z) : KC M z.2 := by
  unfold L_X7_withLetter at h
  have hg : KC M M := KC.rf
  cases h; exact hg
theorem keepJ_X7_addName_74 {M : Mem} {z : Unit × Mem} {v1 : Int32} {v3 : Int64} {s0 : Option Nat} {s1 : Int32} (h : J_X7_addName_74 v1 v3 s0 s1 M = some z) : KC M z.2 := by
  unfold J_X7_addName_74 at h
  have hg : KC M M := KC.rf
  obtain ⟨_, -, h⟩ := bnd h
  obtain ⟨w76, hw, h⟩ := bnd h
  have hg := hg.trans (keep_X7_add hw)
  cases h; exact hg
theorem keepJ_X7_addName_21 {z : Unit × Mem} : ∀ (n : Nat) (v0 : Option Nat) (v1 : Int32) (v2 : Int32) (v3 : Int64) (v5 : Int32) (M : Mem), J_X7_addName_21 n v0 v1 v2 v3 v5 M = some z → KC M z.2 := by
  intro n
  induction n with
  | zero => intro v0 v1 v2 v3 v5 M h; exact nomatch h
  | succ n ih =>
    intro v0 v1 v2 v3 v5 M h
    unfold J_X7_addName_21 at h
    have hg : KC M M := KC.rf
    rcases itor h with h | h
    · obtain ⟨_, -, h⟩ := bnd h
      obtain ⟨w52, hw, h⟩ := bnd h
      have hg := hg.trans (keep_X10_positionOf hw)
      rcases itor h with h | h
      · exact hg.trans (keepJ_X7_addName_74 h)
      · exact hg.trans (keepJ_X7_addName_74 h)
    · obtain ⟨_, -, h⟩ := bnd h
      obtain ⟨_, -, h⟩ := bnd h
      obtain ⟨w35, hw, h⟩ := bnd h
      have hg := hg.trans (keep_X7_withLetter hw)
      exact hg.trans (ih _ _ _ _ _ _ h)
theorem keep_X7_addName {M : Mem} {z : Unit × Mem} {v0 : Option Nat} {v1 : Int32} {v2 : Int32} (h : L_X7_addName v0 v1 v2 M = some z) : KC M z.2 := by
  unfold L_X7_addName at h
  have hg : KC M M := KC.rf
  rcases itor h with h | h
  · exact hg.trans (keepJ_X7_addName_21 FU _ _ _ _ _ _ h)
  · obtain ⟨_, -, h⟩ := bnd h
    obtain ⟨w12, hw, h⟩ := bnd h
    have hg := hg.trans (keep_X7_add hw)
    cases h; exact hg
theorem keepJ_X7_addNumber_21 {z : Unit × Mem} : ∀ (n : Nat) (v0 : Option Nat) (v1 : Int32) (v2 : Int32) (v3 : Int64) (v5 : Int32) (M : Mem), J_X7_addNumber_21 n v0 v1 v2 v3 v5 M = some z → KC M z.2 := by
  intro n
  induction n with
  | zero => intro v0 v1 v2 v3 v5 M h; exact nomatch h
  | succ n ih =>
    intro v0 v1 v2 v3 v5 M h
    unfold J_X7_addNumber_21 at h
    have hg : KC M M := KC.rf
    rcases itor h with h | h
    · obtain ⟨_, -, h⟩ := bnd h
      obtain ⟨w55, hw, h⟩ := bnd h
      have hg := hg.trans (keep_X7_add hw)
      cases h; exact hg
    · obtain ⟨_, -, h⟩ := bnd h
      obtain ⟨_, -, h⟩ := bnd h
      exact hg.trans (ih _ _ _ _ _ _ h)
theorem keep_X7_addNumber {M : Mem} {z : Unit × Mem} {v0 : Option Nat} {v1 : Int32} {v2 : Int32} (h : L_X7_addNumber v0 v1 v2 M = some z) : KC M z.2 := by
  unfold L_X7_addNumber at h
  have hg : KC M M := KC.rf
  rcases itor h with h | h
  · exact hg.trans (keepJ_X7_addNumber_21 FU _ _ _ _ _ _ h)
  · obtain ⟨_, -, h⟩ := bnd h
    obtain ⟨w12, hw, h⟩ := bnd h
    have hg := hg.trans (keep_X7_add hw)
    cases h; exact hg
theorem keepJ_X7_cutOne_19 {M : Mem} {z : Int32 × Mem} {v1 : Int32} (h : J_X7_cutOne_19 v1 M = some z) : KC M z.2 := by
  unfold J_X7_cutOne_19 at h
  have hg : KC M M := KC.rf
  cases h; exact hg
theorem keepJ_X7_cutOne_84 {M : Mem} {z : Int32 × Mem} {v1 : Int32} {s0 : Option Nat} {s1 : Int32} (h : J_X7_cutOne_84 v1 s0 s1 M = some z) : KC M z.2 := by
  unfold J_X7_cutOne_84 at h
  have hg : KC M M := KC.rf
  obtain ⟨_, -, h⟩ := bnd h
  obtain ⟨w86, hw, h⟩ := bnd h
  have hg := hg.trans (keep_X7_add hw)
  cases h; exact hg
theorem keep_X7_cutOne {M : Mem} {z : Int32 × Mem} {v0 : Option Nat} {v1 : Int32} (h : L_X7_cutOne v0 v1 M = some z) : KC M z.2 := by
  unfold L_X7_cutOne at h
  have hg : KC M M := KC.rf
  obtain ⟨_, -, h⟩ := bnd h
  obtain ⟨_, -, h⟩ := bnd h
  rcases itor h with h | h
  · exact hg.trans (keepJ_X7_cutOne_19 h)
  · rcases itor h with h | h
    · obtain ⟨_, -, h⟩ := bnd h
      obtain ⟨w29, hw, h⟩ := bnd h
      have hg := hg.trans (keep_X7_rowEnd hw)
      rcases itor h with h | h
      · obtain ⟨_, -, h⟩ := bnd h
        obtain ⟨w52, hw, h⟩ := bnd h
        have hg := hg.trans (keep_X7_rowEnd hw)
        rcases itor h with h | h
        · rcases itor h with h | h
          · exact hg.trans (keepJ_X7_cutOne_84 h)
          · exact hg.trans (keepJ_X7_cutOne_84 h)
        · obtain ⟨_, -, h⟩ := bnd h
          obtain ⟨w64, hw, h⟩ := bnd h
          have hg := hg.trans (keep_X7_addNumber hw)
          cases h; exact hg
      · obtain ⟨_, -, h⟩ := bnd h
        obtain ⟨w41, hw, h⟩ := bnd h
        have hg := hg.trans (keep_X7_addName hw)
        cases h; exact hg
    · exact hg.trans (keepJ_X7_cutOne_19 h)
theorem keepJ_X7_cut_36 {M : Mem} {z : Unit × Mem} {v0 : Option Nat} (h : J_X7_cut_36 v0 M = some z) : KC M z.2 := by
  unfold J_X7_cut_36 at h
  have hg : KC M M := KC.rf
  obtain ⟨_, -, h⟩ := bnd h
  obtain ⟨_, -, h⟩ := bnd h
  obtain ⟨w43, hw, h⟩ := bnd h
  have hg := hg.trans (keep_X7_add hw)
  cases h; exact hg
theorem keepJ_X7_cut_9 {z : Unit × Mem} : ∀ (n : Nat) (v0 : Option Nat) (v1 : Int32) (v2 : Int32) (M : Mem), J_X7_cut_9 n v0 v1 v2 M = some z → KC M z.2 := by
  intro n
  induction n with
  | zero => intro v0 v1 v2 M h; exact nomatch h
  | succ n ih =>
    intro v0 v1 v2 M h
    unfold J_X7_cut_9 at h
    have hg : KC M M := KC.rf
    rcases itor h with h | h
    · exact hg.trans (keepJ_X7_cut_36 h)
    · obtain ⟨_, -, h⟩ := bnd h
      rcases itor h with h | h
      · exact hg.trans (keepJ_X7_cut_36 h)
      · obtain ⟨_, -, h⟩ := bnd h
        obtain ⟨w26, hw, h⟩ := bnd h
        have hg := hg.trans (keep_X7_cutOne hw)
        exact hg.trans (ih _ _ _ _ h)
theorem keep_X7_cut {M : Mem} {z : Unit × Mem} {v0 : Option Nat} (h : L_X7_cut v0 M = some z) : KC M z.2 := by
  unfold L_X7_cut at h
  have hg : KC M M := KC.rf
  obtain ⟨_, hw, h⟩ := bnd h
  have hg := hg.trans (kc_pI hw)
  exact hg.trans (keepJ_X7_cut_9 FU _ _ _ _ h)
theorem keep_X4_kind {M : Mem} {z : Int32 × Mem} {v0 : Option Nat} (h : L_X4_kind v0 M = some z) : KC M z.2 := by
  unfold L_X4_kind at h
  have hg : KC M M := KC.rf
  obtain ⟨_, -, h⟩ := bnd h
  rcases itor h with h | h
  · cases h; exact hg
  · obtain ⟨_, -, h⟩ := bnd h
    obtain ⟨_, -, h⟩ := bnd h
    obtain ⟨_, -, h⟩ := bnd h
    rcases itor h with h | h
    · obtain ⟨_, -, h⟩ := bnd h
      obtain ⟨_, -, h⟩ := bnd h
      obtain ⟨_, -, h⟩ := bnd h
      obtain ⟨_, -, h⟩ := bnd h
      cases h; exact hg
    · cases h; exact hg
theorem keep_X4_place {M : Mem} {z : Int32 × Mem} {v0 : Option Nat} (h : L_X4_place v0 M = some z) : KC M z.2 := by
  unfold L_X4_place at h
  have hg : KC M M := KC.rf
  obtain ⟨_, -, h⟩ := bnd h
  obtain ⟨_, -, h⟩ := bnd h
  obtain ⟨_, -, h⟩ := bnd h
  rcases itor h with h | h
  · obtain ⟨_, -, h⟩ := bnd h
    obtain ⟨_, -, h⟩ := bnd h
    cases h; exact hg
  · obtain ⟨_, -, h⟩ := bnd h
    obtain ⟨_, -, h⟩ := bnd h
    obtain ⟨_, -, h⟩ := bnd h
    obtain ⟨_, -, h⟩ := bnd h
    cases h; exact hg
theorem keep_X4_content {M : Mem} {z : Int64 × Mem} {v0 : Option Nat} (h : L_X4_content v0 M = some z) : KC M z.2 := by
  unfold L_X4_content at h
  have hg : KC M M := KC.rf
  obtain ⟨_, -, h⟩ := bnd h
  obtain ⟨_, -, h⟩ := bnd h
  obtain ⟨_, -, h⟩ := bnd h
  rcases itor h with h | h
  · cases h; exact hg
  · obtain ⟨_, -, h⟩ := bnd h
    obtain ⟨_, -, h⟩ := bnd h
    obtain ⟨_, -, h⟩ := bnd h
    obtain ⟨_, -, h⟩ := bnd h
    cases h; exact hg
theorem keepJ_X4_reject_54 {M : Mem} {z : Unit × Mem} {s0 : Option Nat} {s1 : Int32} (h : J_X4_reject_54 s0 s1 M = some z) : KC M z.2 := by
  unfold J_X4_reject_54 at h
  have hg : KC M M := KC.rf
  obtain ⟨_, hw, h⟩ := bnd h
  have hg := hg.trans (kc_pI hw)
  cases h; exact hg
theorem keep_X4_reject {M : Mem} {z : Unit × Mem} {v0 : Option Nat} (h : L_X4_reject v0 M = some z) : KC M z.2 := by
  unfold L_X4_reject at h
  have hg : KC M M := KC.rf
  obtain ⟨_, -, h⟩ := bnd h
  rcases itor h with h | h
  · cases h; exact hg
  · obtain ⟨_, hw, h⟩ := bnd h
    have hg := hg.trans (kc_pZ hw)
    obtain ⟨_, hw, h⟩ := bnd h
    have hg := hg.trans (kc_pI hw)
    obtain ⟨_, -, h⟩ := bnd h
    obtain ⟨_, -, h⟩ := bnd h
    obtain ⟨_, -, h⟩ := bnd h
    rcases itor h with h | h
    · obtain ⟨_, -, h⟩ := bnd h
      obtain ⟨_, -, h⟩ := bnd h
      exact hg.trans (keepJ_X4_reject_54 h)
    · obtain ⟨_, -, h⟩ := bnd h
      obtain ⟨_, -, h⟩ := bnd h
      obtain ⟨_, -, h⟩ := bnd h
      obtain ⟨_, -, h⟩ := bnd h
      exact hg.trans (keepJ_X4_reject_54 h)
theorem keep_X4_take {M : Mem} {z : Int32 × Mem} {v0 : Option Nat} {v1 : Int32} (h : L_X4_take v0 v1 M = some z) : KC M z.2 := by
  unfold L_X4_take at h
  have hg : KC M M := KC.rf
  obtain ⟨_, -, h⟩ := bnd h
  obtain ⟨w1, hw, h⟩ := bnd h
  have hg := hg.trans (keep_X4_kind hw)
  rcases itor h with h | h
  · obtain ⟨_, -, h⟩ := bnd h
    obtain ⟨_, hw, h⟩ := bnd h
    have hg := hg.trans (kc_pI hw)
    obtain ⟨_, -, h⟩ := bnd h
    cases h; exact hg
  · obtain ⟨_, -, h⟩ := bnd h
    obtain ⟨w9, hw, h⟩ := bnd h
    have hg := hg.trans (keep_X4_reject hw)
    obtain ⟨_, -, h⟩ := bnd h
    cases h; exact hg
theorem keep_X10_yearIndex {M : Mem} {z : Int32 × Mem} {v0 : Int64} (h : L_X10_yearIndex v0 M = some z) : KC M z.2 := by
  unfold L_X10_yearIndex at h
  have hg : KC M M := KC.rf
  rcases itor h with h | h
  · cases h; exact hg
  · rcases itor h with h | h
    · cases h; exact hg
    · cases h; exact hg
theorem keep_X4_note {M : Mem} {z : Unit × Mem} {v0 : Option Nat} {v1 : Int32} {v2 : Int32} (h : L_X4_note v0 v1 v2 M = some z) : KC M z.2 := by
  unfold L_X4_note at h
  have hg : KC M M := KC.rf
  obtain ⟨_, -, h⟩ := bnd h
  rcases itor h with h | h
  · cases h; exact hg
  · obtain ⟨_, hw, h⟩ := bnd h
    have hg := hg.trans (kc_pI hw)
    obtain ⟨_, hw, h⟩ := bnd h
    have hg := hg.trans (kc_pI hw)
    cases h; exact hg
theorem keepJ_X4_leanOn_21 {M : Mem} {z : Int32 × Mem} {v0 : Option Nat} {v3 : Int32} (h : J_X4_leanOn_21 v0 v3 M = some z) : KC M z.2 := by
  unfold J_X4_leanOn_21 at h
  have hg : KC M M := KC.rf
  obtain ⟨_, -, h⟩ := bnd h
  obtain ⟨w24, hw, h⟩ := bnd h
  have hg := hg.trans (keep_X4_note hw)
  obtain ⟨_, -, h⟩ := bnd h
  cases h; exact hg
theorem keep_X4_leanOn {M : Mem} {z : Int32 × Mem} {v0 : Option Nat} {v1 : Int64} {v3 : Int32} (h : L_X4_leanOn v0 v1 v3 M = some z) : KC M z.2 := by
  unfold L_X4_leanOn at h
  have hg : KC M M := KC.rf
  obtain ⟨w1, hw, h⟩ := bnd h
  have hg := hg.trans (keep_X10_yearIndex hw)
  rcases itor h with h | h
  · exact hg.trans (keepJ_X4_leanOn_21 h)
  · obtain ⟨_, -, h⟩ := bnd h
    rcases itor h with h | h
    · obtain ⟨_, -, h⟩ := bnd h
      obtain ⟨_, -, h⟩ := bnd h
      obtain ⟨_, hw, h⟩ := bnd h
      have hg := hg.trans (kc_pI hw)
      cases h; exact hg
    · exact hg.trans (keepJ_X4_leanOn_21 h)
theorem keep_X4_readUnder {M : Mem} {z : Unit × Mem} {v0 : Option Nat} (h : L_X4_readUnder v0 M = some z) : KC M z.2 := by
  unfold L_X4_readUnder at h
  have hg : KC M M := KC.rf
  obtain ⟨_, -, h⟩ := bnd h
  obtain ⟨w1, hw, h⟩ := bnd h
  have hg := hg.trans (keep_X4_kind hw)
  rcases itor h with h | h
  · obtain ⟨_, -, h⟩ := bnd h
    obtain ⟨_, hw, h⟩ := bnd h
    have hg := hg.trans (kc_pI hw)
    obtain ⟨_, -, h⟩ := bnd h
    obtain ⟨w22, hw, h⟩ := bnd h
    have hg := hg.trans (keep_X4_place hw)
    obtain ⟨_, -, h⟩ := bnd h
    obtain ⟨w27, hw, h⟩ := bnd h
    have hg := hg.trans (keep_X4_content hw)
    obtain ⟨_, -, h⟩ := bnd h
    obtain ⟨w33, hw, h⟩ := bnd h
    have hg := hg.trans (keep_X4_take hw)
    rcases itor h with h | h
    · cases h; exact hg
    · obtain ⟨_, -, h⟩ := bnd h
      obtain ⟨_, -, h⟩ := bnd h
      obtain ⟨w46, hw, h⟩ := bnd h
      have hg := hg.trans (keep_X4_leanOn hw)
      obtain ⟨_, hw, h⟩ := bnd h
      have hg := hg.trans (kc_pI hw)
      obtain ⟨_, -, h⟩ := bnd h
      obtain ⟨_, -, h⟩ := bnd h
      obtain ⟨_, -, h⟩ := bnd h
      obtain ⟨_, -, h⟩ := bnd h
      obtain ⟨w66, hw, h⟩ := bnd h
      have hg := hg.trans (keep_X0_emit hw)
      obtain ⟨_, -, h⟩ := bnd h
      obtain ⟨w73, hw, h⟩ := bnd h
      have hg := hg.trans (keep_X4_take hw)
      cases h; exact hg
  · cases h; exact hg
theorem keep_X4_takeNewName {M : Mem} {z : Int64 × Mem} {v0 : Option Nat} (h : L_X4_takeNewName v0 M = some z) : KC M z.2 := by
  unfold L_X4_takeNewName at h
  have hg : KC M M := KC.rf
  obtain ⟨_, -, h⟩ := bnd h
  obtain ⟨w1, hw, h⟩ := bnd h
  have hg := hg.trans (keep_X4_place hw)
  obtain ⟨_, -, h⟩ := bnd h
  obtain ⟨w6, hw, h⟩ := bnd h
  have hg := hg.trans (keep_X4_content hw)
  obtain ⟨_, -, h⟩ := bnd h
  obtain ⟨w12, hw, h⟩ := bnd h
  have hg := hg.trans (keep_X4_take hw)
  rcases itor h with h | h
  · cases h; exact hg
  · obtain ⟨_, -, h⟩ := bnd h
    obtain ⟨_, -, h⟩ := bnd h
    obtain ⟨w23, hw, h⟩ := bnd h
    have hg := hg.trans (keep_X0_hasName hw)
    rcases itor h with h | h
    · cases h; exact hg
    · obtain ⟨_, -, h⟩ := bnd h
      obtain ⟨w32, hw, h⟩ := bnd h
      have hg := hg.trans (keep_X4_note hw)
      cases h; exact hg
theorem keep_X4_takeMinus {M : Mem} {z : Int32 × Mem} {v0 : Option Nat} (h : L_X4_takeMinus v0 M = some z) : KC M z.2 := by
  unfold L_X4_takeMinus at h
  have hg : KC M M := KC.rf
  obtain ⟨_, -, h⟩ := bnd h
  obtain ⟨w1, hw, h⟩ := bnd h
  have hg := hg.trans (keep_X4_kind hw)
  rcases itor h with h | h
  · obtain ⟨_, -, h⟩ := bnd h
    obtain ⟨_, hw, h⟩ := bnd h
    have hg := hg.trans (kc_pI hw)
    obtain ⟨_, -, h⟩ := bnd h
    cases h; exact hg
  · obtain ⟨_, -, h⟩ := bnd h
    cases h; exact hg
theorem keep_X4_readNumberOrYear {M : Mem} {z : Int32 × Mem} {v0 : Option Nat} (h : L_X4_readNumberOrYear v0 M = some z) : KC M z.2 := by
  unfold L_X4_readNumberOrYear at h
  have hg : KC M M := KC.rf
  obtain ⟨_, -, h⟩ := bnd h
  obtain ⟨w1, hw, h⟩ := bnd h
  have hg := hg.trans (keep_X4_place hw)
  obtain ⟨_, -, h⟩ := bnd h
  obtain ⟨w6, hw, h⟩ := bnd h
  have hg := hg.trans (keep_X4_content hw)
  obtain ⟨_, -, h⟩ := bnd h
  obtain ⟨_, hw, h⟩ := bnd h
  have hg := hg.trans (kc_pI hw)
  obtain ⟨_, -, h⟩ := bnd h
  obtain ⟨w21, hw, h⟩ := bnd h
  have hg := hg.trans (keep_X4_kind hw)
  rcases itor h with h | h
  · obtain ⟨_, -, h⟩ := bnd h
    obtain ⟨_, hw, h⟩ := bnd h
    have hg := hg.trans (kc_pI hw)
    obtain ⟨_, -, h⟩ := bnd h
    obtain ⟨w54, hw, h⟩ := bnd h
    have hg := hg.trans (keep_X4_leanOn hw)
    cases h; exact hg
  · obtain ⟨_, -, h⟩ := bnd h
    obtain ⟨_, -, h⟩ := bnd h
    obtain ⟨w35, hw, h⟩ := bnd h
    have hg := hg.trans (keep_X0_emit hw)
    cases h; exact hg
theorem keep_X4_readConstName {M : Mem} {z : Unit × Mem} {v0 : Option Nat} {v1 : Int32} (h : L_X4_readConstName v0 v1 M = some z) : KC M z.2 := by
  unfold L_X4_readConstName at h
  have hg : KC M M := KC.rf
  obtain ⟨_, -, h⟩ := bnd h
  obtain ⟨w1, hw, h⟩ := bnd h
  have hg := hg.trans (keep_X4_content hw)
  obtain ⟨_, -, h⟩ := bnd h
  obtain ⟨w7, hw, h⟩ := bnd h
  have hg := hg.trans (keep_X4_take hw)
  rcases itor h with h | h
  · cases h; exact hg
  · obtain ⟨_, -, h⟩ := bnd h
    obtain ⟨_, -, h⟩ := bnd h
    obtain ⟨w20, hw, h⟩ := bnd h
    have hg := hg.trans (keep_X0_emitReference hw)
    cases h; exact hg
theorem keepJ_X4_readConstantOperand_39 {M : Mem} {z : Unit × Mem} {v0 : Option Nat} {v1 : Int32} (h : J_X4_readConstantOperand_39 v0 v1 M = some z) : KC M z.2 := by
  unfold J_X4_readConstantOperand_39 at h
  have hg : KC M M := KC.rf
  rcases itor h with h | h
  · cases h; exact hg
  · obtain ⟨_, -, h⟩ := bnd h
    obtain ⟨_, -, h⟩ := bnd h
    obtain ⟨w49, hw, h⟩ := bnd h
    have hg := hg.trans (keep_X0_emit hw)
    cases h; exact hg
theorem keepJ_X4_readConstantOperand_28 {M : Mem} {z : Unit × Mem} {v0 : Option Nat} {v1 : Int32} (h : J_X4_readConstantOperand_28 v0 v1 M = some z) : KC M z.2 := by
  unfold J_X4_readConstantOperand_28 at h
  have hg : KC M M := KC.rf
  exact hg.trans (keepJ_X4_readConstantOperand_39 h)
theorem keep_X4_readConstantOperand {M : Mem} {z : Unit × Mem} {v0 : Option Nat} (h : L_X4_readConstantOperand v0 M = some z) : KC M z.2 := by
  unfold L_X4_readConstantOperand at h
  have hg : KC M M := KC.rf
  obtain ⟨_, -, h⟩ := bnd h
  obtain ⟨w1, hw, h⟩ := bnd h
  have hg := hg.trans (keep_X4_takeMinus hw)
  obtain ⟨_, -, h⟩ := bnd h
  obtain ⟨w6, hw, h⟩ := bnd h
  have hg := hg.trans (keep_X4_kind hw)
  rcases itor h with h | h
  · obtain ⟨_, -, h⟩ := bnd h
    obtain ⟨_, -, h⟩ := bnd h
    obtain ⟨w36, hw, h⟩ := bnd h
    have hg := hg.trans (keep_X4_readConstName hw)
    exact hg.trans (keepJ_X4_readConstantOperand_39 h)
  · obtain ⟨_, -, h⟩ := bnd h
    obtain ⟨w14, hw, h⟩ := bnd h
    have hg := hg.trans (keep_X4_readNumberOrYear hw)
    rcases itor h with h | h
    · exact hg.trans (keepJ_X4_readConstantOperand_28 h)
    · obtain ⟨_, -, h⟩ := bnd h
      obtain ⟨w25, hw, h⟩ := bnd h
      have hg := hg.trans (keep_X4_readConstName hw)
      exact hg.trans (keepJ_X4_readConstantOperand_28 h)
theorem keepJ_X4_readConstantSum_114 {M : Mem} {z : Unit × Mem} {k_4 : Option Nat → Int32 → Int32 → Mem → Option (Unit × Mem)} (hk_4 : ∀ (v0 : Option Nat) (v1 : Int32) (v2 : Int32) (Ma : Mem), k_4 v0 v1 v2 Ma = some z → KC Ma z.2) {v0 : Option Nat} {v2 : Int32} {s0 : Int32} (h : J_X4_readConstantSum_114 k_4 v0 v2 s0 M = some z) : KC M z.2 := by
  unfold J_X4_readConstantSum_114 at h
  have hg : KC M M := KC.rf
  obtain ⟨_, -, h⟩ := bnd h
  obtain ⟨_, hw, h⟩ := bnd h
  have hg := hg.trans (kc_pI hw)
  exact hg.trans (hk_4 _ _ _ _ h)
theorem keepJ_X4_readConstantSum_98 {M : Mem} {z : Unit × Mem} {k_4 : Option Nat → Int32 → Int32 → Mem → Option (Unit × Mem)} (hk_4 : ∀ (v0 : Option Nat) (v1 : Int32) (v2 : Int32) (Ma : Mem), k_4 v0 v1 v2 Ma = some z → KC Ma z.2) {v0 : Option Nat} {v2 : Int32} (h : J_X4_readConstantSum_98 k_4 v0 v2 M = some z) : KC M z.2 := by
  unfold J_X4_readConstantSum_98 at h
  have hg : KC M M := KC.rf
  obtain ⟨_, -, h⟩ := bnd h
  obtain ⟨w99, hw, h⟩ := bnd h
  have hg := hg.trans (keep_X4_kind hw)
  rcases itor h with h | h
  · exact hg.trans (keepJ_X4_readConstantSum_114 hk_4 h)
  · exact hg.trans (keepJ_X4_readConstantSum_114 hk_4 h)
theorem keepJ_X4_readConstantSum_79 {M : Mem} {z : Unit × Mem} {k_4 : Option Nat → Int32 → Int32 → Mem → Option (Unit × Mem)} (hk_4 : ∀ (v0 : Option Nat) (v1 : Int32) (v2 : Int32) (Ma : Mem), k_4 v0 v1 v2 Ma = some z → KC Ma z.2) {v0 : Option Nat} {v2 : Int32} (h : J_X4_readConstantSum_79 k_4 v0 v2 M = some z) : KC M z.2 := by
  unfold J_X4_readConstantSum_79 at h
  have hg : KC M M := KC.rf
  obtain ⟨_, -, h⟩ := bnd h
  obtain ⟨w80, hw, h⟩ := bnd h
  have hg := hg.trans (keep_X4_kind hw)
  rcases itor h with h | h
  · exact hg.trans (keepJ_X4_readConstantSum_98 hk_4 h)
  · obtain ⟨_, -, h⟩ := bnd h
    obtain ⟨w89, hw, h⟩ := bnd h
    have hg := hg.trans (keep_X4_kind hw)
    rcases itor h with h | h
    · exact hg.trans (keepJ_X4_readConstantSum_98 hk_4 h)
    · cases h; exact hg
theorem keepJ_X4_readConstantSum_64 {M : Mem} {z : Unit × Mem} {k_4 : Option Nat → Int32 → Int32 → Mem → Option (Unit × Mem)} (hk_4 : ∀ (v0 : Option Nat) (v1 : Int32) (v2 : Int32) (Ma : Mem), k_4 v0 v1 v2 Ma = some z → KC Ma z.2) {v0 : Option Nat} {v1 : Int32} {v2 : Int32} (h : J_X4_readConstantSum_64 k_4 v0 v1 v2 M = some z) : KC M z.2 := by
  unfold J_X4_readConstantSum_64 at h
  have hg : KC M M := KC.rf
  rcases itor h with h | h
  · exact hg.trans (keepJ_X4_readConstantSum_79 hk_4 h)
  · obtain ⟨_, -, h⟩ := bnd h
    obtain ⟨_, -, h⟩ := bnd h
    obtain ⟨w75, hw, h⟩ := bnd h
    have hg := hg.trans (keep_X0_emit hw)
    exact hg.trans (keepJ_X4_readConstantSum_79 hk_4 h)
theorem keepJ_X4_readConstantSum_17 {z : Unit × Mem} {k_4 : Option Nat → Int32 → Int32 → Mem → Option (Unit × Mem)} (hk_4 : ∀ (v0 : Option Nat) (v1 : Int32) (v2 : Int32) (Ma : Mem), k_4 v0 v1 v2 Ma = some z → KC Ma z.2) : ∀ (n : Nat) (v0 : Option Nat) (v1 : Int32) (v2 : Int32) (v3 : Int32) (M : Mem), J_X4_readConstantSum_17 k_4 n v0 v1 v2 v3 M = some z → KC M z.2 := by
  intro n
  induction n with
  | zero => intro v0 v1 v2 v3 M h; exact nomatch h
  | succ n ih =>
    intro v0 v1 v2 v3 M h
    unfold J_X4_readConstantSum_17 at h
    have hg : KC M M := KC.rf
    rcases itor h with h | h
    · exact hg.trans (keepJ_X4_readConstantSum_64 hk_4 h)
    · obtain ⟨_, -, h⟩ := bnd h
      obtain ⟨w25, hw, h⟩ := bnd h
      have hg := hg.trans (keep_X4_kind hw)
      rcases itor h with h | h
      · exact hg.trans (keepJ_X4_readConstantSum_64 hk_4 h)
      · obtain ⟨_, -, h⟩ := bnd h
        obtain ⟨_, hw, h⟩ := bnd h
        have hg := hg.trans (kc_pI hw)
        obtain ⟨_, -, h⟩ := bnd h
        obtain ⟨w44, hw, h⟩ := bnd h
        have hg := hg.trans (keep_X4_readConstantOperand hw)
        obtain ⟨_, -, h⟩ := bnd h
        obtain ⟨_, -, h⟩ := bnd h
        obtain ⟨w54, hw, h⟩ := bnd h
        have hg := hg.trans (keep_X0_emit hw)
        exact hg.trans (ih _ _ _ _ _ h)
theorem keepJ_X4_readConstantSum_4 {z : Unit × Mem} : ∀ (n : Nat) (v0 : Option Nat) (v1 : Int32) (v2 : Int32) (M : Mem), J_X4_readConstantSum_4 n v0 v1 v2 M = some z → KC M z.2 := by
  intro n
  induction n with
  | zero => intro v0 v1 v2 M h; exact nomatch h
  | succ n ih =>
    intro v0 v1 v2 M h
    unfold J_X4_readConstantSum_4 at h
    have hg : KC M M := KC.rf
    rcases itor h with h | h
    · cases h; exact hg
    · obtain ⟨_, -, h⟩ := bnd h
      obtain ⟨w12, hw, h⟩ := bnd h
      have hg := hg.trans (keep_X4_readConstantOperand hw)
      exact hg.trans (keepJ_X4_readConstantSum_17 ih FU _ _ _ _ _ h)
theorem keep_X4_readConstantSum {M : Mem} {z : Unit × Mem} {v0 : Option Nat} (h : L_X4_readConstantSum v0 M = some z) : KC M z.2 := by
  unfold L_X4_readConstantSum at h
  have hg : KC M M := KC.rf
  exact hg.trans (keepJ_X4_readConstantSum_4 FU _ _ _ _ h)
theorem keepJ_X4_readConst_21 {M : Mem} {z : Unit × Mem} {v0 : Option Nat} (h : J_X4_readConst_21 v0 M = some z) : KC M z.2 := by
  unfold J_X4_readConst_21 at h
  have hg : KC M M := KC.rf
  obtain ⟨_, -, h⟩ := bnd h
  obtain ⟨_, hw, h⟩ := bnd h
  have hg := hg.trans (kc_pI hw)
  obtain ⟨_, -, h⟩ := bnd h
  obtain ⟨w32, hw, h⟩ := bnd h
  have hg := hg.trans (keep_X4_takeNewName hw)
  obtain ⟨_, -, h⟩ := bnd h
  obtain ⟨w39, hw, h⟩ := bnd h
  have hg := hg.trans (keep_X4_take hw)
  obtain ⟨_, -, h⟩ := bnd h
  obtain ⟨_, -, h⟩ := bnd h
  obtain ⟨w50, hw, h⟩ := bnd h
  have hg := hg.trans (keep_X0_emit hw)
  obtain ⟨_, -, h⟩ := bnd h
  obtain ⟨_, -, h⟩ := bnd h
  obtain ⟨w59, hw, h⟩ := bnd h
  have hg := hg.trans (keep_X0_addConst hw)
  obtain ⟨_, -, h⟩ := bnd h
  obtain ⟨w63, hw, h⟩ := bnd h
  have hg := hg.trans (keep_X4_readConstantSum hw)
  obtain ⟨_, -, h⟩ := bnd h
  obtain ⟨_, -, h⟩ := bnd h
  obtain ⟨w73, hw, h⟩ := bnd h
  have hg := hg.trans (keep_X0_emit hw)
  obtain ⟨_, -, h⟩ := bnd h
  obtain ⟨_, -, h⟩ := bnd h
  obtain ⟨w82, hw, h⟩ := bnd h
  have hg := hg.trans (keep_X0_landHere hw)
  obtain ⟨_, -, h⟩ := bnd h
  obtain ⟨w88, hw, h⟩ := bnd h
  have hg := hg.trans (keep_X4_take hw)
  cases h; exact hg
theorem keep_X4_readConst {M : Mem} {z : Unit × Mem} {v0 : Option Nat} (h : L_X4_readConst v0 M = some z) : KC M z.2 := by
  unfold L_X4_readConst at h
  have hg : KC M M := KC.rf
  obtain ⟨_, -, h⟩ := bnd h
  obtain ⟨_, -, h⟩ := bnd h
  rcases itor h with h | h
  · exact hg.trans (keepJ_X4_readConst_21 h)
  · obtain ⟨_, -, h⟩ := bnd h
    obtain ⟨w15, hw, h⟩ := bnd h
    have hg := hg.trans (keep_X4_place hw)
    obtain ⟨_, -, h⟩ := bnd h
    obtain ⟨w18, hw, h⟩ := bnd h
    have hg := hg.trans (keep_X4_note hw)
    exact hg.trans (keepJ_X4_readConst_21 h)
theorem keep_X4_readReference {M : Mem} {z : Unit × Mem} {rF : Option Nat → Int32 → Mem → Option (Unit × Mem)} (hrK : ∀ (a0 : Option Nat) (a1 : Int32) (Ma : Mem) (w : Unit × Mem), rF a0 a1 Ma = some w → KC Ma w.2) {v0 : Option Nat} {v1 : Int32} {v2 : Int32} (h : L_X4_readReference rF v0 v1 v2 M = some z) : KC M z.2 := by
  unfold L_X4_readReference at h
  have hg : KC M M := KC.rf
  obtain ⟨_, -, h⟩ := bnd h
  obtain ⟨w1, hw, h⟩ := bnd h
  have hg := hg.trans (keep_X4_content hw)
  obtain ⟨_, -, h⟩ := bnd h
  obtain ⟨w7, hw, h⟩ := bnd h
  have hg := hg.trans (keep_X4_take hw)
  rcases itor h with h | h
  · obtain ⟨_, -, h⟩ := bnd h
    obtain ⟨w15, hw, h⟩ := bnd h
    have hg := hg.trans (keep_X4_kind hw)
    rcases itor h with h | h
    · obtain ⟨_, -, h⟩ := bnd h
      obtain ⟨_, hw, h⟩ := bnd h
      have hg := hg.trans (kc_pI hw)
      obtain ⟨_, -, h⟩ := bnd h
      obtain ⟨w48, hw, h⟩ := bnd h
      have hg := hg.trans (hrK _ _ _ _ hw)
      obtain ⟨_, -, h⟩ := bnd h
      obtain ⟨w54, hw, h⟩ := bnd h
      have hg := hg.trans (keep_X4_take hw)
      obtain ⟨_, -, h⟩ := bnd h
      obtain ⟨_, -, h⟩ := bnd h
      obtain ⟨w65, hw, h⟩ := bnd h
      have hg := hg.trans (keep_X0_emitReference hw)
      cases h; exact hg
    · obtain ⟨_, -, h⟩ := bnd h
      obtain ⟨_, -, h⟩ := bnd h
      obtain ⟨w30, hw, h⟩ := bnd h
      have hg := hg.trans (keep_X0_emitReference hw)
      cases h; exact hg
  · cases h; exact hg
theorem keepJ_X4_readSetting_29 {M : Mem} {z : Unit × Mem} {v0 : Option Nat} {v1 : Int32} (h : J_X4_readSetting_29 v0 v1 M = some z) : KC M z.2 := by
  unfold J_X4_readSetting_29 at h
  have hg : KC M M := KC.rf
  obtain ⟨_, -, h⟩ := bnd h
  obtain ⟨_, hw, h⟩ := bnd h
  have hg := hg.trans (kc_pI hw)
  rcases itor h with h | h
  · obtain ⟨_, -, h⟩ := bnd h
    obtain ⟨_, -, h⟩ := bnd h
    obtain ⟨w70, hw, h⟩ := bnd h
    have hg := hg.trans (keep_X0_emit hw)
    cases h; exact hg
  · obtain ⟨_, -, h⟩ := bnd h
    obtain ⟨_, -, h⟩ := bnd h
    obtain ⟨w52, hw, h⟩ := bnd h
    have hg := hg.trans (keep_X0_emit hw)
    cases h; exact hg
theorem keepJ_X4_readSetting_16 {M : Mem} {z : Unit × Mem} {v0 : Option Nat} {v1 : Int32} {s0 : Int32} {s1 : Int32} (h : J_X4_readSetting_16 v0 v1 s0 s1 M = some z) : KC M z.2 := by
  unfold J_X4_readSetting_16 at h
  have hg : KC M M := KC.rf
  rcases itor h with h | h
  · exact hg.trans (keepJ_X4_readSetting_29 h)
  · obtain ⟨_, -, h⟩ := bnd h
    obtain ⟨w23, hw, h⟩ := bnd h
    have hg := hg.trans (keep_X4_place hw)
    obtain ⟨_, -, h⟩ := bnd h
    obtain ⟨w26, hw, h⟩ := bnd h
    have hg := hg.trans (keep_X4_note hw)
    exact hg.trans (keepJ_X4_readSetting_29 h)
theorem keep_X4_readSetting {M : Mem} {z : Unit × Mem} {v0 : Option Nat} {v1 : Int32} (h : L_X4_readSetting v0 v1 M = some z) : KC M z.2 := by
  unfold L_X4_readSetting at h
  have hg : KC M M := KC.rf
  obtain ⟨_, -, h⟩ := bnd h
  rcases itor h with h | h
  · exact hg.trans (keepJ_X4_readSetting_16 h)
  · exact hg.trans (keepJ_X4_readSetting_16 h)
theorem keepJ_X4_readOperand_101 {M : Mem} {z : Unit × Mem} {rF : Option Nat → Int32 → Mem → Option (Unit × Mem)} (hrK : ∀ (a0 : Option Nat) (a1 : Int32) (Ma : Mem) (w : Unit × Mem), rF a0 a1 Ma = some w → KC Ma w.2) {v0 : Option Nat} {v2 : Int32} (h : J_X4_readOperand_101 rF v0 v2 M = some z) : KC M z.2 := by
  unfold J_X4_readOperand_101 at h
  have hg : KC M M := KC.rf
  rcases itor h with h | h
  · cases h; exact hg
  · obtain ⟨_, -, h⟩ := bnd h
    obtain ⟨_, -, h⟩ := bnd h
    obtain ⟨w111, hw, h⟩ := bnd h
    have hg := hg.trans (keep_X0_emit hw)
    cases h; exact hg
theorem keepJ_X4_readOperand_34 {M : Mem} {z : Unit × Mem} {rF : Option Nat → Int32 → Mem → Option (Unit × Mem)} (hrK : ∀ (a0 : Option Nat) (a1 : Int32) (Ma : Mem) (w : Unit × Mem), rF a0 a1 Ma = some w → KC Ma w.2) {v0 : Option Nat} {v2 : Int32} (h : J_X4_readOperand_34 rF v0 v2 M = some z) : KC M z.2 := by
  unfold J_X4_readOperand_34 at h
  have hg : KC M M := KC.rf
  exact hg.trans (keepJ_X4_readOperand_101 hrK h)
theorem keepJ_X4_readOperand_92 {M : Mem} {z : Unit × Mem} {rF : Option Nat → Int32 → Mem → Option (Unit × Mem)} (hrK : ∀ (a0 : Option Nat) (a1 : Int32) (Ma : Mem) (w : Unit × Mem), rF a0 a1 Ma = some w → KC Ma w.2) {v0 : Option Nat} {v1 : Int32} {v2 : Int32} (h : J_X4_readOperand_92 rF v0 v1 v2 M = some z) : KC M z.2 := by
  unfold J_X4_readOperand_92 at h
  have hg : KC M M := KC.rf
  obtain ⟨_, -, h⟩ := bnd h
  obtain ⟨_, -, h⟩ := bnd h
  obtain ⟨w98, hw, h⟩ := bnd h
  have hg := hg.trans (keep_X4_readReference hrK hw)
  exact hg.trans (keepJ_X4_readOperand_101 hrK h)
theorem keep_X4_readOperand {M : Mem} {z : Unit × Mem} {rF : Option Nat → Int32 → Mem → Option (Unit × Mem)} (hrK : ∀ (a0 : Option Nat) (a1 : Int32) (Ma : Mem) (w : Unit × Mem), rF a0 a1 Ma = some w → KC Ma w.2) {v0 : Option Nat} {v1 : Int32} (h : L_X4_readOperand rF v0 v1 M = some z) : KC M z.2 := by
  unfold L_X4_readOperand at h
  have hg : KC M M := KC.rf
  obtain ⟨_, -, h⟩ := bnd h
  obtain ⟨w1, hw, h⟩ := bnd h
  have hg := hg.trans (keep_X4_takeMinus hw)
  obtain ⟨_, -, h⟩ := bnd h
  obtain ⟨w6, hw, h⟩ := bnd h
  have hg := hg.trans (keep_X4_kind hw)
  rcases itor h with h | h
  · rcases itor h with h | h
    · rcases itor h with h | h
      · exact hg.trans (keepJ_X4_readOperand_92 hrK h)
      · rcases itor h with h | h
        · exact hg.trans (keepJ_X4_readOperand_92 hrK h)
        · obtain ⟨_, -, h⟩ := bnd h
          obtain ⟨w86, hw, h⟩ := bnd h
          have hg := hg.trans (keep_X4_readSetting hw)
          exact hg.trans (keepJ_X4_readOperand_101 hrK h)
    · obtain ⟨_, -, h⟩ := bnd h
      obtain ⟨_, hw, h⟩ := bnd h
      have hg := hg.trans (kc_pI hw)
      obtain ⟨_, -, h⟩ := bnd h
      obtain ⟨w57, hw, h⟩ := bnd h
      have hg := hg.trans (hrK _ _ _ _ hw)
      obtain ⟨_, -, h⟩ := bnd h
      obtain ⟨w63, hw, h⟩ := bnd h
      have hg := hg.trans (keep_X4_take hw)
      exact hg.trans (keepJ_X4_readOperand_101 hrK h)
  · obtain ⟨_, -, h⟩ := bnd h
    obtain ⟨w16, hw, h⟩ := bnd h
    have hg := hg.trans (keep_X4_readNumberOrYear hw)
    rcases itor h with h | h
    · exact hg.trans (keepJ_X4_readOperand_34 hrK h)
    · obtain ⟨_, -, h⟩ := bnd h
      obtain ⟨w31, hw, h⟩ := bnd h
      have hg := hg.trans (keep_X4_readReference hrK hw)
      exact hg.trans (keepJ_X4_readOperand_34 hrK h)
theorem keep_X4_factor {M : Mem} {z : Int32 × Mem} {v0 : Int32} (h : L_X4_factor v0 M = some z) : KC M z.2 := by
  unfold L_X4_factor at h
  have hg : KC M M := KC.rf
  rcases itor h with h | h
  · cases h; exact hg
  rcases itor h with h | h
  · cases h; exact hg
  rcases itor h with h | h
  · cases h; exact hg
  cases h; exact hg
theorem keepJ_X4_readProduct_15 {z : Unit × Mem} {rF : Option Nat → Int32 → Mem → Option (Unit × Mem)} (hrK : ∀ (a0 : Option Nat) (a1 : Int32) (Ma : Mem) (w : Unit × Mem), rF a0 a1 Ma = some w → KC Ma w.2) : ∀ (n : Nat) (v0 : Option Nat) (v1 : Int32) (v2 : Int32) (v3 : Int32) (M : Mem), J_X4_readProduct_15 rF n v0 v1 v2 v3 M = some z → KC M z.2 := by
  intro n
  induction n with
  | zero => intro v0 v1 v2 v3 M h; exact nomatch h
  | succ n ih =>
    intro v0 v1 v2 v3 M h
    unfold J_X4_readProduct_15 at h
    have hg : KC M M := KC.rf
    rcases itor h with h | h
    · cases h; exact hg
    · rcases itor h with h | h
      · cases h; exact hg
      · obtain ⟨_, -, h⟩ := bnd h
        obtain ⟨_, hw, h⟩ := bnd h
        have hg := hg.trans (kc_pI hw)
        obtain ⟨_, -, h⟩ := bnd h
        obtain ⟨w39, hw, h⟩ := bnd h
        have hg := hg.trans (keep_X4_readOperand hrK hw)
        obtain ⟨_, -, h⟩ := bnd h
        obtain ⟨_, -, h⟩ := bnd h
        obtain ⟨w48, hw, h⟩ := bnd h
        have hg := hg.trans (keep_X0_emit hw)
        obtain ⟨_, -, h⟩ := bnd h
        obtain ⟨w53, hw, h⟩ := bnd h
        have hg := hg.trans (keep_X4_kind hw)
        obtain ⟨w56, hw, h⟩ := bnd h
        have hg := hg.trans (keep_X4_factor hw)
        exact hg.trans (ih _ _ _ _ _ h)
theorem keep_X4_readProduct {M : Mem} {z : Unit × Mem} {rF : Option Nat → Int32 → Mem → Option (Unit × Mem)} (hrK : ∀ (a0 : Option Nat) (a1 : Int32) (Ma : Mem) (w : Unit × Mem), rF a0 a1 Ma = some w → KC Ma w.2) {v0 : Option Nat} {v1 : Int32} (h : L_X4_readProduct rF v0 v1 M = some z) : KC M z.2 := by
  unfold L_X4_readProduct at h
  have hg : KC M M := KC.rf
  obtain ⟨_, -, h⟩ := bnd h
  obtain ⟨w2, hw, h⟩ := bnd h
  have hg := hg.trans (keep_X4_readOperand hrK hw)
  obtain ⟨_, -, h⟩ := bnd h
  obtain ⟨w6, hw, h⟩ := bnd h
  have hg := hg.trans (keep_X4_kind hw)
  obtain ⟨w9, hw, h⟩ := bnd h
  have hg := hg.trans (keep_X4_factor hw)
  exact hg.trans (keepJ_X4_readProduct_15 hrK FU _ _ _ _ _ h)
theorem keepJ_X4_readSum_48 {M : Mem} {z : Unit × Mem} {rF : Option Nat → Int32 → Mem → Option (Unit × Mem)} (hrK : ∀ (a0 : Option Nat) (a1 : Int32) (Ma : Mem) (w : Unit × Mem), rF a0 a1 Ma = some w → KC Ma w.2) {k_7 : Option Nat → Int32 → Int32 → Mem → Option (Unit × Mem)} (hk_7 : ∀ (v0 : Option Nat) (v1 : Int32) (v2 : Int32) (Ma : Mem), k_7 v0 v1 v2 Ma = some z → KC Ma z.2) {v0 : Option Nat} {v1 : Int32} {v2 : Int32} {s0 : Int32} (h : J_X4_readSum_48 rF k_7 v0 v1 v2 s0 M = some z) : KC M z.2 := by
  unfold J_X4_readSum_48 at h
  have hg : KC M M := KC.rf
  obtain ⟨_, -, h⟩ := bnd h
  obtain ⟨_, hw, h⟩ := bnd h
  have hg := hg.trans (kc_pI hw)
  obtain ⟨_, -, h⟩ := bnd h
  obtain ⟨w61, hw, h⟩ := bnd h
  have hg := hg.trans (keep_X4_readProduct hrK hw)
  obtain ⟨_, -, h⟩ := bnd h
  obtain ⟨_, -, h⟩ := bnd h
  obtain ⟨w70, hw, h⟩ := bnd h
  have hg := hg.trans (keep_X0_emit hw)
  exact hg.trans (hk_7 _ _ _ _ h)
theorem keepJ_X4_readSum_32 {M : Mem} {z : Unit × Mem} {rF : Option Nat → Int32 → Mem → Option (Unit × Mem)} (hrK : ∀ (a0 : Option Nat) (a1 : Int32) (Ma : Mem) (w : Unit × Mem), rF a0 a1 Ma = some w → KC Ma w.2) {k_7 : Option Nat → Int32 → Int32 → Mem → Option (Unit × Mem)} (hk_7 : ∀ (v0 : Option Nat) (v1 : Int32) (v2 : Int32) (Ma : Mem), k_7 v0 v1 v2 Ma = some z → KC Ma z.2) {v0 : Option Nat} {v1 : Int32} {v2 : Int32} (h : J_X4_readSum_32 rF k_7 v0 v1 v2 M = some z) : KC M z.2 := by
  unfold J_X4_readSum_32 at h
  have hg : KC M M := KC.rf
  obtain ⟨_, -, h⟩ := bnd h
  obtain ⟨w33, hw, h⟩ := bnd h
  have hg := hg.trans (keep_X4_kind hw)
  rcases itor h with h | h
  · exact hg.trans (keepJ_X4_readSum_48 hrK hk_7 h)
  · exact hg.trans (keepJ_X4_readSum_48 hrK hk_7 h)
theorem keepJ_X4_readSum_7 {z : Unit × Mem} {rF : Option Nat → Int32 → Mem → Option (Unit × Mem)} (hrK : ∀ (a0 : Option Nat) (a1 : Int32) (Ma : Mem) (w : Unit × Mem), rF a0 a1 Ma = some w → KC Ma w.2) : ∀ (n : Nat) (v0 : Option Nat) (v1 : Int32) (v2 : Int32) (M : Mem), J_X4_readSum_7 rF n v0 v1 v2 M = some z → KC M z.2 := by
  intro n
  induction n with
  | zero => intro v0 v1 v2 M h; exact nomatch h
  | succ n ih =>
    intro v0 v1 v2 M h
    unfold J_X4_readSum_7 at h
    have hg : KC M M := KC.rf
    rcases itor h with h | h
    · cases h; exact hg
    · obtain ⟨_, -, h⟩ := bnd h
      obtain ⟨w15, hw, h⟩ := bnd h
      have hg := hg.trans (keep_X4_kind hw)
      rcases itor h with h | h
      · exact hg.trans (keepJ_X4_readSum_32 hrK ih h)
      · obtain ⟨_, -, h⟩ := bnd h
        obtain ⟨w24, hw, h⟩ := bnd h
        have hg := hg.trans (keep_X4_kind hw)
        rcases itor h with h | h
        · cases h; exact hg
        · exact hg.trans (keepJ_X4_readSum_32 hrK ih h)
theorem keep_X4_readSum {M : Mem} {z : Unit × Mem} {rF : Option Nat → Int32 → Mem → Option (Unit × Mem)} (hrK : ∀ (a0 : Option Nat) (a1 : Int32) (Ma : Mem) (w : Unit × Mem), rF a0 a1 Ma = some w → KC Ma w.2) {v0 : Option Nat} {v1 : Int32} (h : L_X4_readSum rF v0 v1 M = some z) : KC M z.2 := by
  unfold L_X4_readSum at h
  have hg : KC M M := KC.rf
  obtain ⟨_, -, h⟩ := bnd h
  obtain ⟨w2, hw, h⟩ := bnd h
  have hg := hg.trans (keep_X4_readProduct hrK hw)
  exact hg.trans (keepJ_X4_readSum_7 hrK FU _ _ _ _ h)
theorem keep_X4_comparison {M : Mem} {z : Int32 × Mem} {v0 : Int32} (h : L_X4_comparison v0 M = some z) : KC M z.2 := by
  unfold L_X4_comparison at h
  have hg : KC M M := KC.rf
  rcases itor h with h | h
  · cases h; exact hg
  rcases itor h with h | h
  · cases h; exact hg
  rcases itor h with h | h
  · cases h; exact hg
  cases h; exact hg
theorem keepJ_X4_readChoice_54 {M : Mem} {z : Unit × Mem} {rF : Option Nat → Int32 → Mem → Option (Unit × Mem)} (hrK : ∀ (a0 : Option Nat) (a1 : Int32) (Ma : Mem) (w : Unit × Mem), rF a0 a1 Ma = some w → KC Ma w.2) {v0 : Option Nat} {v1 : Int32} (h : J_X4_readChoice_54 rF v0 v1 M = some z) : KC M z.2 := by
  unfold J_X4_readChoice_54 at h
  have hg : KC M M := KC.rf
  obtain ⟨_, -, h⟩ := bnd h
  obtain ⟨w55, hw, h⟩ := bnd h
  have hg := hg.trans (keep_X4_kind hw)
  rcases itor h with h | h
  · obtain ⟨_, -, h⟩ := bnd h
    obtain ⟨_, hw, h⟩ := bnd h
    have hg := hg.trans (kc_pI hw)
    obtain ⟨_, -, h⟩ := bnd h
    obtain ⟨_, -, h⟩ := bnd h
    obtain ⟨w81, hw, h⟩ := bnd h
    have hg := hg.trans (keep_X0_emit hw)
    obtain ⟨_, -, h⟩ := bnd h
    obtain ⟨w89, hw, h⟩ := bnd h
    have hg := hg.trans (hrK _ _ _ _ hw)
    obtain ⟨_, -, h⟩ := bnd h
    obtain ⟨w95, hw, h⟩ := bnd h
    have hg := hg.trans (keep_X4_take hw)
    obtain ⟨_, -, h⟩ := bnd h
    obtain ⟨_, -, h⟩ := bnd h
    obtain ⟨w106, hw, h⟩ := bnd h
    have hg := hg.trans (keep_X0_emit hw)
    obtain ⟨_, -, h⟩ := bnd h
    obtain ⟨_, -, h⟩ := bnd h
    obtain ⟨w116, hw, h⟩ := bnd h
    have hg := hg.trans (keep_X0_landHere hw)
    obtain ⟨_, -, h⟩ := bnd h
    obtain ⟨w123, hw, h⟩ := bnd h
    have hg := hg.trans (hrK _ _ _ _ hw)
    obtain ⟨_, -, h⟩ := bnd h
    obtain ⟨_, -, h⟩ := bnd h
    obtain ⟨w132, hw, h⟩ := bnd h
    have hg := hg.trans (keep_X0_landHere hw)
    cases h; exact hg
  · cases h; exact hg
theorem keepB_X4_readChoice {M : Mem} {z : Unit × Mem} {rF : Option Nat → Int32 → Mem → Option (Unit × Mem)} (hrK : ∀ (a0 : Option Nat) (a1 : Int32) (Ma : Mem) (w : Unit × Mem), rF a0 a1 Ma = some w → KC Ma w.2) {v0 : Option Nat} {v1 : Int32} (h : B_X4_readChoice rF v0 v1 M = some z) : KC M z.2 := by
  unfold B_X4_readChoice at h
  have hg : KC M M := KC.rf
  rcases itor h with h | h
  · obtain ⟨_, -, h⟩ := bnd h
    obtain ⟨w13, hw, h⟩ := bnd h
    have hg := hg.trans (keep_X4_readSum hrK hw)
    obtain ⟨_, -, h⟩ := bnd h
    obtain ⟨w17, hw, h⟩ := bnd h
    have hg := hg.trans (keep_X4_kind hw)
    obtain ⟨w20, hw, h⟩ := bnd h
    have hg := hg.trans (keep_X4_comparison hw)
    rcases itor h with h | h
    · exact hg.trans (keepJ_X4_readChoice_54 hrK h)
    · obtain ⟨_, -, h⟩ := bnd h
      obtain ⟨_, hw, h⟩ := bnd h
      have hg := hg.trans (kc_pI hw)
      obtain ⟨_, -, h⟩ := bnd h
      obtain ⟨w41, hw, h⟩ := bnd h
      have hg := hg.trans (keep_X4_readSum hrK hw)
      obtain ⟨_, -, h⟩ := bnd h
      obtain ⟨_, -, h⟩ := bnd h
      obtain ⟨w50, hw, h⟩ := bnd h
      have hg := hg.trans (keep_X0_emit hw)
      exact hg.trans (keepJ_X4_readChoice_54 hrK h)
  · obtain ⟨_, -, h⟩ := bnd h
    obtain ⟨w7, hw, h⟩ := bnd h
    have hg := hg.trans (keep_X4_reject hw)
    cases h; exact hg
theorem keep_X4_readChoice : ∀ (n : Nat) {M : Mem} {z : Unit × Mem} {v0 : Option Nat} {v1 : Int32} (h : L_X4_readChoice n v0 v1 M = some z), KC M z.2
  | 0 => fun h => nomatch h
  | n + 1 => fun h => keepB_X4_readChoice (rF := L_X4_readChoice n) (fun _ _ _ _ h => keep_X4_readChoice n h) h
theorem keepJ_X4_readRule_20 {M : Mem} {z : Unit × Mem} {v0 : Option Nat} (h : J_X4_readRule_20 v0 M = some z) : KC M z.2 := by
  unfold J_X4_readRule_20 at h
  have hg : KC M M := KC.rf
  obtain ⟨_, -, h⟩ := bnd h
  obtain ⟨_, hw, h⟩ := bnd h
  have hg := hg.trans (kc_pI hw)
  obtain ⟨_, -, h⟩ := bnd h
  obtain ⟨_, -, h⟩ := bnd h
  obtain ⟨w37, hw, h⟩ := bnd h
  have hg := hg.trans (keep_X0_emit hw)
  obtain ⟨_, -, h⟩ := bnd h
  obtain ⟨_, -, h⟩ := bnd h
  obtain ⟨_, -, h⟩ := bnd h
  obtain ⟨_, hw, h⟩ := bnd h
  have hg := hg.trans (kc_pI hw)
  obtain ⟨_, hw, h⟩ := bnd h
  have hg := hg.trans (kc_pI hw)
  obtain ⟨_, -, h⟩ := bnd h
  obtain ⟨w62, hw, h⟩ := bnd h
  have hg := hg.trans (keep_X4_readChoice 14 hw)
  obtain ⟨_, hw, h⟩ := bnd h
  have hg := hg.trans (kc_pI hw)
  obtain ⟨_, -, h⟩ := bnd h
  obtain ⟨_, -, h⟩ := bnd h
  obtain ⟨w77, hw, h⟩ := bnd h
  have hg := hg.trans (keep_X0_emit hw)
  obtain ⟨_, -, h⟩ := bnd h
  obtain ⟨_, -, h⟩ := bnd h
  obtain ⟨w86, hw, h⟩ := bnd h
  have hg := hg.trans (keep_X0_landHere hw)
  obtain ⟨_, -, h⟩ := bnd h
  obtain ⟨w92, hw, h⟩ := bnd h
  have hg := hg.trans (keep_X4_take hw)
  cases h; exact hg
theorem keep_X4_readRule {M : Mem} {z : Unit × Mem} {v0 : Option Nat} (h : L_X4_readRule v0 M = some z) : KC M z.2 := by
  unfold L_X4_readRule at h
  have hg : KC M M := KC.rf
  obtain ⟨_, -, h⟩ := bnd h
  obtain ⟨_, -, h⟩ := bnd h
  rcases itor h with h | h
  · exact hg.trans (keepJ_X4_readRule_20 h)
  · obtain ⟨_, -, h⟩ := bnd h
    obtain ⟨w14, hw, h⟩ := bnd h
    have hg := hg.trans (keep_X4_place hw)
    obtain ⟨_, -, h⟩ := bnd h
    obtain ⟨w17, hw, h⟩ := bnd h
    have hg := hg.trans (keep_X4_note hw)
    exact hg.trans (keepJ_X4_readRule_20 h)
theorem keepJ_X4_takeNumber_35 {M : Mem} {z : Int64 × Mem} {v0 : Option Nat} {v3 : Int32} {v4 : Int64} (h : J_X4_takeNumber_35 v0 v3 v4 M = some z) : KC M z.2 := by
  unfold J_X4_takeNumber_35 at h
  have hg : KC M M := KC.rf
  obtain ⟨_, -, h⟩ := bnd h
  obtain ⟨w38, hw, h⟩ := bnd h
  have hg := hg.trans (keep_X4_note hw)
  cases h; exact hg
theorem keep_X4_takeNumber {M : Mem} {z : Int64 × Mem} {v0 : Option Nat} {v1 : Int32} {v2 : Int32} (h : L_X4_takeNumber v0 v1 v2 M = some z) : KC M z.2 := by
  unfold L_X4_takeNumber at h
  have hg : KC M M := KC.rf
  obtain ⟨_, -, h⟩ := bnd h
  obtain ⟨w1, hw, h⟩ := bnd h
  have hg := hg.trans (keep_X4_place hw)
  obtain ⟨_, -, h⟩ := bnd h
  obtain ⟨w6, hw, h⟩ := bnd h
  have hg := hg.trans (keep_X4_content hw)
  obtain ⟨_, -, h⟩ := bnd h
  obtain ⟨w13, hw, h⟩ := bnd h
  have hg := hg.trans (keep_X4_take hw)
  rcases itor h with h | h
  · cases h; exact hg
  · rcases itor h with h | h
    · exact hg.trans (keepJ_X4_takeNumber_35 h)
    · rcases itor h with h | h
      · cases h; exact hg
      · exact hg.trans (keepJ_X4_takeNumber_35 h)
theorem keepJ_X4_readTable_23 {M : Mem} {z : Unit × Mem} {v0 : Option Nat} {v1 : Int32} (h : J_X4_readTable_23 v0 v1 M = some z) : KC M z.2 := by
  unfold J_X4_readTable_23 at h
  have hg : KC M M := KC.rf
  obtain ⟨_, -, h⟩ := bnd h
  obtain ⟨_, hw, h⟩ := bnd h
  have hg := hg.trans (kc_pI hw)
  obtain ⟨_, -, h⟩ := bnd h
  obtain ⟨w34, hw, h⟩ := bnd h
  have hg := hg.trans (keep_X4_takeNewName hw)
  obtain ⟨_, -, h⟩ := bnd h
  obtain ⟨w42, hw, h⟩ := bnd h
  have hg := hg.trans (keep_X4_takeNumber hw)
  obtain ⟨_, -, h⟩ := bnd h
  obtain ⟨w50, hw, h⟩ := bnd h
  have hg := hg.trans (keep_X4_take hw)
  obtain ⟨_, -, h⟩ := bnd h
  obtain ⟨_, -, h⟩ := bnd h
  obtain ⟨w61, hw, h⟩ := bnd h
  have hg := hg.trans (keep_X0_addTable hw)
  obtain ⟨_, -, h⟩ := bnd h
  obtain ⟨_, -, h⟩ := bnd h
  obtain ⟨w71, hw, h⟩ := bnd h
  have hg := hg.trans (keep_X0_emit hw)
  obtain ⟨_, -, h⟩ := bnd h
  obtain ⟨_, -, h⟩ := bnd h
  obtain ⟨_, hw, h⟩ := bnd h
  have hg := hg.trans (kc_pI hw)
  obtain ⟨_, -, h⟩ := bnd h
  obtain ⟨w91, hw, h⟩ := bnd h
  have hg := hg.trans (keep_X4_readChoice 14 hw)
  obtain ⟨_, hw, h⟩ := bnd h
  have hg := hg.trans (kc_pI hw)
  obtain ⟨_, -, h⟩ := bnd h
  obtain ⟨_, -, h⟩ := bnd h
  obtain ⟨w115, hw, h⟩ := bnd h
  have hg := hg.trans (keep_X0_emit hw)
  obtain ⟨_, -, h⟩ := bnd h
  obtain ⟨w122, hw, h⟩ := bnd h
  have hg := hg.trans (keep_X4_take hw)
  cases h; exact hg
theorem keep_X4_readTable {M : Mem} {z : Unit × Mem} {v0 : Option Nat} (h : L_X4_readTable v0 M = some z) : KC M z.2 := by
  unfold L_X4_readTable at h
  have hg : KC M M := KC.rf
  obtain ⟨_, -, h⟩ := bnd h
  obtain ⟨_, -, h⟩ := bnd h
  rcases itor h with h | h
  · exact hg.trans (keepJ_X4_readTable_23 h)
  · obtain ⟨_, -, h⟩ := bnd h
    obtain ⟨w17, hw, h⟩ := bnd h
    have hg := hg.trans (keep_X4_place hw)
    obtain ⟨_, -, h⟩ := bnd h
    obtain ⟨w20, hw, h⟩ := bnd h
    have hg := hg.trans (keep_X4_note hw)
    exact hg.trans (keepJ_X4_readTable_23 h)
theorem keep_X4_readCheck {M : Mem} {z : Unit × Mem} {v0 : Option Nat} (h : L_X4_readCheck v0 M = some z) : KC M z.2 := by
  unfold L_X4_readCheck at h
  have hg : KC M M := KC.rf
  obtain ⟨_, -, h⟩ := bnd h
  obtain ⟨_, hw, h⟩ := bnd h
  have hg := hg.trans (kc_pI hw)
  obtain ⟨_, -, h⟩ := bnd h
  obtain ⟨w12, hw, h⟩ := bnd h
  have hg := hg.trans (keep_X4_readChoice 14 hw)
  obtain ⟨_, -, h⟩ := bnd h
  obtain ⟨w18, hw, h⟩ := bnd h
  have hg := hg.trans (keep_X4_take hw)
  obtain ⟨_, -, h⟩ := bnd h
  obtain ⟨w27, hw, h⟩ := bnd h
  have hg := hg.trans (keep_X4_takeNumber hw)
  obtain ⟨_, -, h⟩ := bnd h
  obtain ⟨_, -, h⟩ := bnd h
  obtain ⟨w38, hw, h⟩ := bnd h
  have hg := hg.trans (keep_X0_emit hw)
  obtain ⟨_, -, h⟩ := bnd h
  obtain ⟨w45, hw, h⟩ := bnd h
  have hg := hg.trans (keep_X4_take hw)
  cases h; exact hg
theorem keepJ_X4_readSteps_2 {z : Unit × Mem} {rF : Option Nat → Int32 → Mem → Option (Unit × Mem)} (hrK : ∀ (a0 : Option Nat) (a1 : Int32) (Ma : Mem) (w : Unit × Mem), rF a0 a1 Ma = some w → KC Ma w.2) : ∀ (n : Nat) (v0 : Option Nat) (v1 : Int32) (v2 : Int32) (M : Mem), J_X4_readSteps_2 rF n v0 v1 v2 M = some z → KC M z.2 := by
  intro n
  induction n with
  | zero => intro v0 v1 v2 M h; exact nomatch h
  | succ n ih =>
    intro v0 v1 v2 M h
    unfold J_X4_readSteps_2 at h
    have hg : KC M M := KC.rf
    rcases itor h with h | h
    · cases h; exact hg
    · obtain ⟨_, -, h⟩ := bnd h
      obtain ⟨w10, hw, h⟩ := bnd h
      have hg := hg.trans (keep_X4_kind hw)
      rcases itor h with h | h
      · cases h; exact hg
      · obtain ⟨_, -, h⟩ := bnd h
        rcases itor h with h | h
        · cases h; exact hg
        · obtain ⟨_, -, h⟩ := bnd h
          obtain ⟨w27, hw, h⟩ := bnd h
          have hg := hg.trans (hrK _ _ _ _ hw)
          exact hg.trans (ih _ _ _ _ h)
theorem keep_X4_readSteps {M : Mem} {z : Unit × Mem} {rF : Option Nat → Int32 → Mem → Option (Unit × Mem)} (hrK : ∀ (a0 : Option Nat) (a1 : Int32) (Ma : Mem) (w : Unit × Mem), rF a0 a1 Ma = some w → KC Ma w.2) {v0 : Option Nat} {v1 : Int32} (h : L_X4_readSteps rF v0 v1 M = some z) : KC M z.2 := by
  unfold L_X4_readSteps at h
  have hg : KC M M := KC.rf
  exact hg.trans (keepJ_X4_readSteps_2 hrK FU _ _ _ _ h)
theorem keep_X4_readTry {M : Mem} {z : Unit × Mem} {rF : Option Nat → Int32 → Mem → Option (Unit × Mem)} (hrK : ∀ (a0 : Option Nat) (a1 : Int32) (Ma : Mem) (w : Unit × Mem), rF a0 a1 Ma = some w → KC Ma w.2) {v0 : Option Nat} {v1 : Int32} (h : L_X4_readTry rF v0 v1 M = some z) : KC M z.2 := by
  unfold L_X4_readTry at h
  have hg : KC M M := KC.rf
  obtain ⟨_, -, h⟩ := bnd h
  obtain ⟨_, hw, h⟩ := bnd h
  have hg := hg.trans (kc_pI hw)
  obtain ⟨_, -, h⟩ := bnd h
  obtain ⟨w13, hw, h⟩ := bnd h
  have hg := hg.trans (keep_X4_take hw)
  obtain ⟨_, -, h⟩ := bnd h
  obtain ⟨_, -, h⟩ := bnd h
  obtain ⟨w21, hw, h⟩ := bnd h
  have hg := hg.trans (keep_X0_openTry hw)
  obtain ⟨_, -, h⟩ := bnd h
  obtain ⟨w27, hw, h⟩ := bnd h
  have hg := hg.trans (keep_X4_readSteps hrK hw)
  obtain ⟨_, -, h⟩ := bnd h
  obtain ⟨w33, hw, h⟩ := bnd h
  have hg := hg.trans (keep_X4_take hw)
  obtain ⟨_, -, h⟩ := bnd h
  obtain ⟨_, -, h⟩ := bnd h
  obtain ⟨w44, hw, h⟩ := bnd h
  have hg := hg.trans (keep_X0_emit hw)
  obtain ⟨_, -, h⟩ := bnd h
  obtain ⟨_, -, h⟩ := bnd h
  obtain ⟨w53, hw, h⟩ := bnd h
  have hg := hg.trans (keep_X0_closeTry hw)
  obtain ⟨_, -, h⟩ := bnd h
  obtain ⟨w60, hw, h⟩ := bnd h
  have hg := hg.trans (keep_X4_take hw)
  obtain ⟨_, -, h⟩ := bnd h
  obtain ⟨w67, hw, h⟩ := bnd h
  have hg := hg.trans (keep_X4_take hw)
  obtain ⟨_, -, h⟩ := bnd h
  obtain ⟨w73, hw, h⟩ := bnd h
  have hg := hg.trans (keep_X4_readSteps hrK hw)
  obtain ⟨_, -, h⟩ := bnd h
  obtain ⟨w79, hw, h⟩ := bnd h
  have hg := hg.trans (keep_X4_take hw)
  obtain ⟨_, -, h⟩ := bnd h
  obtain ⟨_, -, h⟩ := bnd h
  obtain ⟨w88, hw, h⟩ := bnd h
  have hg := hg.trans (keep_X0_landHere hw)
  cases h; exact hg
theorem keepJ_X4_readStep_31 {M : Mem} {z : Unit × Mem} {rF : Option Nat → Int32 → Mem → Option (Unit × Mem)} (hrK : ∀ (a0 : Option Nat) (a1 : Int32) (Ma : Mem) (w : Unit × Mem), rF a0 a1 Ma = some w → KC Ma w.2) {v0 : Option Nat} (h : J_X4_readStep_31 rF v0 M = some z) : KC M z.2 := by
  unfold J_X4_readStep_31 at h
  have hg : KC M M := KC.rf
  obtain ⟨_, -, h⟩ := bnd h
  obtain ⟨w32, hw, h⟩ := bnd h
  have hg := hg.trans (keep_X4_reject hw)
  cases h; exact hg
theorem keepJ_X4_readStep_70 {M : Mem} {z : Unit × Mem} {rF : Option Nat → Int32 → Mem → Option (Unit × Mem)} (hrK : ∀ (a0 : Option Nat) (a1 : Int32) (Ma : Mem) (w : Unit × Mem), rF a0 a1 Ma = some w → KC Ma w.2) {v0 : Option Nat} {v1 : Int32} {v2 : Int32} (h : J_X4_readStep_70 rF v0 v1 v2 M = some z) : KC M z.2 := by
  unfold J_X4_readStep_70 at h
  have hg : KC M M := KC.rf
  rcases itor h with h | h
  · rcases itor h with h | h
    · obtain ⟨_, -, h⟩ := bnd h
      obtain ⟨w102, hw, h⟩ := bnd h
      have hg := hg.trans (keep_X4_readTry hrK hw)
      cases h; exact hg
    · obtain ⟨_, -, h⟩ := bnd h
      obtain ⟨w92, hw, h⟩ := bnd h
      have hg := hg.trans (keep_X4_readCheck hw)
      cases h; exact hg
  · obtain ⟨_, -, h⟩ := bnd h
    obtain ⟨w78, hw, h⟩ := bnd h
    have hg := hg.trans (keep_X4_readTable hw)
    cases h; exact hg
theorem keepJ_X4_readStep_36 {M : Mem} {z : Unit × Mem} {rF : Option Nat → Int32 → Mem → Option (Unit × Mem)} (hrK : ∀ (a0 : Option Nat) (a1 : Int32) (Ma : Mem) (w : Unit × Mem), rF a0 a1 Ma = some w → KC Ma w.2) {v0 : Option Nat} {v1 : Int32} {v2 : Int32} (h : J_X4_readStep_36 rF v0 v1 v2 M = some z) : KC M z.2 := by
  unfold J_X4_readStep_36 at h
  have hg : KC M M := KC.rf
  obtain ⟨_, -, h⟩ := bnd h
  obtain ⟨_, -, h⟩ := bnd h
  obtain ⟨_, hw, h⟩ := bnd h
  have hg := hg.trans (kc_pI hw)
  obtain ⟨_, -, h⟩ := bnd h
  obtain ⟨_, -, h⟩ := bnd h
  rcases itor h with h | h
  · exact hg.trans (keepJ_X4_readStep_70 hrK h)
  · obtain ⟨_, -, h⟩ := bnd h
    obtain ⟨w64, hw, h⟩ := bnd h
    have hg := hg.trans (keep_X4_place hw)
    obtain ⟨_, -, h⟩ := bnd h
    obtain ⟨w67, hw, h⟩ := bnd h
    have hg := hg.trans (keep_X4_note hw)
    exact hg.trans (keepJ_X4_readStep_70 hrK h)
theorem keepB_X4_readStep {M : Mem} {z : Unit × Mem} {rF : Option Nat → Int32 → Mem → Option (Unit × Mem)} (hrK : ∀ (a0 : Option Nat) (a1 : Int32) (Ma : Mem) (w : Unit × Mem), rF a0 a1 Ma = some w → KC Ma w.2) {v0 : Option Nat} {v1 : Int32} (h : B_X4_readStep rF v0 v1 M = some z) : KC M z.2 := by
  unfold B_X4_readStep at h
  have hg : KC M M := KC.rf
  obtain ⟨_, -, h⟩ := bnd h
  obtain ⟨w1, hw, h⟩ := bnd h
  have hg := hg.trans (keep_X4_kind hw)
  rcases itor h with h | h
  · exact hg.trans (keepJ_X4_readStep_36 hrK h)
  · rcases itor h with h | h
    · exact hg.trans (keepJ_X4_readStep_36 hrK h)
    · rcases itor h with h | h
      · exact hg.trans (keepJ_X4_readStep_31 hrK h)
      · rcases itor h with h | h
        · exact hg.trans (keepJ_X4_readStep_36 hrK h)
        · exact hg.trans (keepJ_X4_readStep_31 hrK h)
theorem keep_X4_readStep : ∀ (n : Nat) {M : Mem} {z : Unit × Mem} {v0 : Option Nat} {v1 : Int32} (h : L_X4_readStep n v0 v1 M = some z), KC M z.2
  | 0 => fun h => nomatch h
  | n + 1 => fun h => keepB_X4_readStep (rF := L_X4_readStep n) (fun _ _ _ _ h => keep_X4_readStep n h) h
theorem keep_J7_copyOf_59c91 {M : Mem} {z : Option Nat × Mem} {v0 : Option Nat} {v1 : Int32} (h : L_J7_copyOf_59c91 v0 v1 M = some z) : KC M z.2 := by
  unfold L_J7_copyOf_59c91 at h
  have hg : KC M M := KC.rf
  obtain ⟨_, -, h⟩ := bnd h
  rcases itor h with h | h
  · obtain ⟨_, hw, h⟩ := bnd h
    have hg := hg.trans (kc_nA hw)
    obtain ⟨_, -, h⟩ := bnd h
    obtain ⟨_, hw, h⟩ := bnd h
    have hg := hg.trans (kc_cpyI hw)
    cases h; exact hg
  · obtain ⟨_, hw, h⟩ := bnd h
    have hg := hg.trans (kc_dupeI hw)
    cases h; exact hg
theorem keep_J7_copyOf_c38d5 {M : Mem} {z : Option Nat × Mem} {v0 : Option Nat} {v1 : Int32} (h : L_J7_copyOf_c38d5 v0 v1 M = some z) : KC M z.2 := by
  unfold L_J7_copyOf_c38d5 at h
  have hg : KC M M := KC.rf
  obtain ⟨_, -, h⟩ := bnd h
  rcases itor h with h | h
  · obtain ⟨_, hw, h⟩ := bnd h
    have hg := hg.trans (kc_nA hw)
    obtain ⟨_, -, h⟩ := bnd h
    obtain ⟨_, hw, h⟩ := bnd h
    have hg := hg.trans (kc_cpyL hw)
    cases h; exact hg
  · obtain ⟨_, hw, h⟩ := bnd h
    have hg := hg.trans (kc_dupeL hw)
    cases h; exact hg
theorem keep_X6_init {M : Mem} {z : Unit × Mem} {v0 : Option Nat} {v1 : Option Nat} (h : L_X6_init v0 v1 M = some z) : KX v0 M z.2 := by
  unfold L_X6_init at h
  have hg : KX v0 M M := KX.rf
  have h := nnz h
  obtain ⟨_, -, h⟩ := bnd h
  obtain ⟨_, hw, h⟩ := bnd h
  have hg := hg.step (kx_pI hw)
  obtain ⟨_, -, h⟩ := bnd h
  obtain ⟨_, hw, h⟩ := bnd h
  have hg := hg.step (kx_pI hw)
  obtain ⟨_, -, h⟩ := bnd h
  obtain ⟨_, hw, h⟩ := bnd h
  have hg := hg.step (kx_pI hw)
  obtain ⟨_, -, h⟩ := bnd h
  obtain ⟨_, hw, h⟩ := bnd h
  have hg := hg.step (kx_pI hw)
  obtain ⟨_, -, h⟩ := bnd h
  obtain ⟨_, -, h⟩ := bnd h
  obtain ⟨w45, hw, h⟩ := bnd h
  have hg := hg.trans (keep_J7_copyOf_59c91 hw)
  obtain ⟨_, hw, h⟩ := bnd h
  have hg := hg.step (kx_pR hw)
  obtain ⟨_, -, h⟩ := bnd h
  obtain ⟨_, -, h⟩ := bnd h
  obtain ⟨w60, hw, h⟩ := bnd h
  have hg := hg.trans (keep_J7_copyOf_c38d5 hw)
  obtain ⟨_, hw, h⟩ := bnd h
  have hg := hg.step (kx_pR hw)
  obtain ⟨_, -, h⟩ := bnd h
  obtain ⟨_, -, h⟩ := bnd h
  obtain ⟨w75, hw, h⟩ := bnd h
  have hg := hg.trans (keep_J7_copyOf_c38d5 hw)
  obtain ⟨_, hw, h⟩ := bnd h
  have hg := hg.step (kx_pR hw)
  obtain ⟨_, -, h⟩ := bnd h
  obtain ⟨_, -, h⟩ := bnd h
  obtain ⟨w90, hw, h⟩ := bnd h
  have hg := hg.trans (keep_J7_copyOf_59c91 hw)
  obtain ⟨_, hw, h⟩ := bnd h
  have hg := hg.step (kx_pR hw)
  obtain ⟨_, -, h⟩ := bnd h
  obtain ⟨_, -, h⟩ := bnd h
  obtain ⟨w105, hw, h⟩ := bnd h
  have hg := hg.trans (keep_J7_copyOf_c38d5 hw)
  obtain ⟨_, hw, h⟩ := bnd h
  have hg := hg.step (kx_pR hw)
  obtain ⟨_, -, h⟩ := bnd h
  obtain ⟨_, -, h⟩ := bnd h
  obtain ⟨w120, hw, h⟩ := bnd h
  have hg := hg.trans (keep_J7_copyOf_59c91 hw)
  obtain ⟨_, hw, h⟩ := bnd h
  have hg := hg.step (kx_pR hw)
  obtain ⟨_, -, h⟩ := bnd h
  obtain ⟨_, -, h⟩ := bnd h
  obtain ⟨w135, hw, h⟩ := bnd h
  have hg := hg.trans (keep_J7_copyOf_59c91 hw)
  obtain ⟨_, hw, h⟩ := bnd h
  have hg := hg.step (kx_pR hw)
  obtain ⟨_, -, h⟩ := bnd h
  obtain ⟨_, -, h⟩ := bnd h
  obtain ⟨w150, hw, h⟩ := bnd h
  have hg := hg.trans (keep_J7_copyOf_59c91 hw)
  obtain ⟨_, hw, h⟩ := bnd h
  have hg := hg.step (kx_pR hw)
  obtain ⟨_, -, h⟩ := bnd h
  obtain ⟨_, -, h⟩ := bnd h
  obtain ⟨w165, hw, h⟩ := bnd h
  have hg := hg.trans (keep_J7_copyOf_59c91 hw)
  obtain ⟨_, hw, h⟩ := bnd h
  have hg := hg.step (kx_pR hw)
  cases h; exact hg
theorem keepJ_X4_read_110 {M : Mem} {z : Option Nat × Mem} {k_50 : Option Nat → Int32 → Mem → Option (Option Nat × Mem)} (hk_50 : ∀ (v0 : Option Nat) (v2 : Int32) (Ma : Mem), k_50 v0 v2 Ma = some z → KC Ma z.2) {v0 : Option Nat} {v2 : Int32} (h : J_X4_read_110 k_50 v0 v2 M = some z) : KC M z.2 := by
  unfold J_X4_read_110 at h
  have hg : KC M M := KC.rf
  exact hg.trans (hk_50 _ _ _ h)
theorem keepJ_X4_read_116 {M : Mem} {z : Option Nat × Mem} {v0 : Option Nat} (h : J_X4_read_116 v0 M = some z) : KC M z.2 := by
  unfold J_X4_read_116 at h
  have hg : KC M M := KC.rf
  obtain ⟨_, -, h⟩ := bnd h
  obtain ⟨_, -, h⟩ := bnd h
  obtain ⟨w123, hw, h⟩ := bnd h
  have hg := hg.trans (keep_X0_emit hw)
  obtain ⟨_, -, h⟩ := bnd h
  rcases itor h with h | h
  · cases h; exact hg
  · have hg0 := hg
    obtain ⟨_, -, h⟩ := bnd h
    obtain ⟨w142, hw, h⟩ := bnd h
    have hg := kx_new hg0 (keep_X6_init hw)
    cases h; exact hg
theorem keepJ_X4_read_50 {z : Option Nat × Mem} : ∀ (n : Nat) (v0 : Option Nat) (v2 : Int32) (M : Mem), J_X4_read_50 n v0 v2 M = some z → KC M z.2 := by
  intro n
  induction n with
  | zero => intro v0 v2 M h; exact nomatch h
  | succ n ih =>
    intro v0 v2 M h
    unfold J_X4_read_50 at h
    have hg : KC M M := KC.rf
    rcases itor h with h | h
    · exact hg.trans (keepJ_X4_read_116 h)
    · obtain ⟨_, -, h⟩ := bnd h
      obtain ⟨w58, hw, h⟩ := bnd h
      have hg := hg.trans (keep_X4_kind hw)
      rcases itor h with h | h
      · exact hg.trans (keepJ_X4_read_116 h)
      · obtain ⟨_, -, h⟩ := bnd h
        rcases itor h with h | h
        · exact hg.trans (keepJ_X4_read_116 h)
        · obtain ⟨_, -, h⟩ := bnd h
          obtain ⟨w72, hw, h⟩ := bnd h
          have hg := hg.trans (keep_X4_kind hw)
          rcases itor h with h | h
          · obtain ⟨_, -, h⟩ := bnd h
            obtain ⟨w89, hw, h⟩ := bnd h
            have hg := hg.trans (keep_X4_kind hw)
            rcases itor h with h | h
            · obtain ⟨_, -, h⟩ := bnd h
              obtain ⟨w107, hw, h⟩ := bnd h
              have hg := hg.trans (keep_X4_readStep 6 hw)
              exact hg.trans (keepJ_X4_read_110 ih h)
            · obtain ⟨_, -, h⟩ := bnd h
              obtain ⟨w99, hw, h⟩ := bnd h
              have hg := hg.trans (keep_X4_readRule hw)
              exact hg.trans (keepJ_X4_read_110 ih h)
          · obtain ⟨_, -, h⟩ := bnd h
            obtain ⟨w82, hw, h⟩ := bnd h
            have hg := hg.trans (keep_X4_readConst hw)
            exact hg.trans (keepJ_X4_read_110 ih h)
theorem keep_X4_read {M : Mem} {z : Option Nat × Mem} {v0 : Option Nat} {v1 : Int32} (h : L_X4_read v0 v1 M = some z) : KC M z.2 := by
  unfold L_X4_read at h
  have hg : KC M M := KC.rf
  obtain ⟨_, -, h⟩ := bnd h
  obtain ⟨_, -, h⟩ := bnd h
  obtain ⟨w4, hw, h⟩ := bnd h
  have hg := hg.trans (keep_X7_cut hw)
  obtain ⟨_, -, h⟩ := bnd h
  obtain ⟨_, -, h⟩ := bnd h
  obtain ⟨w11, hw, h⟩ := bnd h
  have hg := hg.trans (keep_X0_clear hw)
  obtain ⟨_, hw, h⟩ := bnd h
  have hg := hg.trans (kc_pI hw)
  obtain ⟨_, hw, h⟩ := bnd h
  have hg := hg.trans (kc_pI hw)
  obtain ⟨_, hw, h⟩ := bnd h
  have hg := hg.trans (kc_pI hw)
  obtain ⟨_, hw, h⟩ := bnd h
  have hg := hg.trans (kc_pZ hw)
  obtain ⟨_, hw, h⟩ := bnd h
  have hg := hg.trans (kc_pI hw)
  obtain ⟨_, hw, h⟩ := bnd h
  have hg := hg.trans (kc_pI hw)
  obtain ⟨_, -, h⟩ := bnd h
  obtain ⟨w45, hw, h⟩ := bnd h
  have hg := hg.trans (keep_X4_readUnder hw)
  exact hg.trans (keepJ_X4_read_50 FU _ _ _ h)
theorem keep_X5_mark {M : Mem} {z : Unit × Mem} {v0 : Option Nat} {v1 : Int32} {v2 : Int32} (h : L_X5_mark v0 v1 v2 M = some z) : KC M z.2 := by
  unfold L_X5_mark at h
  have hg : KC M M := KC.rf
  obtain ⟨_, -, h⟩ := bnd h
  obtain ⟨_, -, h⟩ := bnd h
  have h := nnz h
  obtain ⟨_, -, h⟩ := bnd h
  obtain ⟨_, -, h⟩ := bnd h
  have h := nnz h
  obtain ⟨_, hw, h⟩ := bnd h
  have hg := hg.trans (kc_uI hw)
  cases h; exact hg
theorem keep_X5_push {M : Mem} {z : Unit × Mem} {v0 : Option Nat} {v1 : Int32} (h : L_X5_push v0 v1 M = some z) : KC M z.2 := by
  unfold L_X5_push at h
  have hg : KC M M := KC.rf
  obtain ⟨_, -, h⟩ := bnd h
  obtain ⟨_, -, h⟩ := bnd h
  obtain ⟨_, -, h⟩ := bnd h
  rcases itor h with h | h
  · cases h; exact hg
  · obtain ⟨_, -, h⟩ := bnd h
    obtain ⟨_, -, h⟩ := bnd h
    obtain ⟨_, hw, h⟩ := bnd h
    have hg := hg.trans (kc_uI hw)
    obtain ⟨_, -, h⟩ := bnd h
    obtain ⟨_, hw, h⟩ := bnd h
    have hg := hg.trans (kc_pI hw)
    obtain ⟨_, -, h⟩ := bnd h
    obtain ⟨w35, hw, h⟩ := bnd h
    have hg := hg.trans (keep_X5_mark hw)
    cases h; exact hg
theorem keep_X5_markOf {M : Mem} {z : Int32 × Mem} {v0 : Option Nat} {v1 : Int32} (h : L_X5_markOf v0 v1 M = some z) : KC M z.2 := by
  unfold L_X5_markOf at h
  have hg : KC M M := KC.rf
  obtain ⟨_, -, h⟩ := bnd h
  obtain ⟨_, -, h⟩ := bnd h
  have h := nnz h
  obtain ⟨_, -, h⟩ := bnd h
  obtain ⟨_, -, h⟩ := bnd h
  have h := nnz h
  obtain ⟨_, -, h⟩ := bnd h
  cases h; exact hg
theorem keep_X5_put {M : Mem} {z : Int32 × Mem} {v0 : Option Nat} {v1 : Int64} (h : L_X5_put v0 v1 M = some z) : KC M z.2 := by
  unfold L_X5_put at h
  have hg : KC M M := KC.rf
  obtain ⟨_, -, h⟩ := bnd h
  rcases itor h with h | h
  · cases h; exact hg
  · rcases itor h with h | h
    · cases h; exact hg
    · rcases itor h with h | h
      · obtain ⟨_, -, h⟩ := bnd h
        obtain ⟨_, -, h⟩ := bnd h
        obtain ⟨_, hw, h⟩ := bnd h
        have hg := hg.trans (kc_uL hw)
        obtain ⟨_, -, h⟩ := bnd h
        obtain ⟨_, hw, h⟩ := bnd h
        have hg := hg.trans (kc_pI hw)
        cases h; exact hg
      · cases h; exact hg
theorem keep_X5_refer {M : Mem} {z : Int32 × Mem} {v0 : Option Nat} {v1 : Int64} (h : L_X5_refer v0 v1 M = some z) : KC M z.2 := by
  unfold L_X5_refer at h
  have hg : KC M M := KC.rf
  obtain ⟨_, -, h⟩ := bnd h
  obtain ⟨_, -, h⟩ := bnd h
  obtain ⟨w6, hw, h⟩ := bnd h
  have hg := hg.trans (keep_X1_find hw)
  rcases itor h with h | h
  · cases h; exact hg
  · obtain ⟨_, -, h⟩ := bnd h
    obtain ⟨w17, hw, h⟩ := bnd h
    have hg := hg.trans (keep_X5_markOf hw)
    rcases itor h with h | h
    · obtain ⟨_, -, h⟩ := bnd h
      obtain ⟨w29, hw, h⟩ := bnd h
      have hg := hg.trans (keep_X5_markOf hw)
      rcases itor h with h | h
      · obtain ⟨_, -, h⟩ := bnd h
        obtain ⟨_, -, h⟩ := bnd h
        have h := nnz h
        obtain ⟨_, -, h⟩ := bnd h
        obtain ⟨_, -, h⟩ := bnd h
        have h := nnz h
        obtain ⟨_, -, h⟩ := bnd h
        obtain ⟨_, -, h⟩ := bnd h
        obtain ⟨w59, hw, h⟩ := bnd h
        have hg := hg.trans (keep_X5_put hw)
        cases h; exact hg
      · cases h; exact hg
    · cases h; exact hg
theorem keep_X5_productFits {M : Mem} {z : Int32 × Mem} {v0 : Int64} {v2 : Int64} (h : L_X5_productFits v0 v2 M = some z) : KC M z.2 := by
  unfold L_X5_productFits at h
  have hg : KC M M := KC.rf
  rcases itor h with h | h
  · obtain ⟨_, -, h⟩ := bnd h
    cases h; exact hg
  · have h := nnz h
    rcases itor h with h | h
    · obtain ⟨_, -, h⟩ := bnd h
      cases h; exact hg
    · obtain ⟨_, -, h⟩ := bnd h
      cases h; exact hg
theorem keepJ_X5_calculate_48 {M : Mem} {z : Int32 × Mem} {v0 : Option Nat} {v1 : Int32} (h : J_X5_calculate_48 v0 v1 M = some z) : KC M z.2 := by
  unfold J_X5_calculate_48 at h
  have hg : KC M M := KC.rf
  obtain ⟨_, -, h⟩ := bnd h
  rcases itor h with h | h
  · obtain ⟨_, -, h⟩ := bnd h
    obtain ⟨_, hw, h⟩ := bnd h
    have hg := hg.trans (kc_pI hw)
    obtain ⟨_, -, h⟩ := bnd h
    obtain ⟨_, -, h⟩ := bnd h
    obtain ⟨_, -, h⟩ := bnd h
    obtain ⟨_, -, h⟩ := bnd h
    obtain ⟨_, -, h⟩ := bnd h
    obtain ⟨_, -, h⟩ := bnd h
    rcases itor h with h | h
    · obtain ⟨_, -, h⟩ := bnd h
      obtain ⟨w126, hw, h⟩ := bnd h
      have hg := hg.trans (keep_X5_put hw)
      cases h; exact hg
    rcases itor h with h | h
    · obtain ⟨_, -, h⟩ := bnd h
      obtain ⟨w136, hw, h⟩ := bnd h
      have hg := hg.trans (keep_X5_put hw)
      cases h; exact hg
    rcases itor h with h | h
    · obtain ⟨w144, hw, h⟩ := bnd h
      have hg := hg.trans (keep_X5_productFits hw)
      rcases itor h with h | h
      · cases h; exact hg
      · obtain ⟨_, -, h⟩ := bnd h
        obtain ⟨w156, hw, h⟩ := bnd h
        have hg := hg.trans (keep_X5_put hw)
        cases h; exact hg
    cases h; exact hg
  · cases h; exact hg
theorem keep_X5_calculate {M : Mem} {z : Int32 × Mem} {v0 : Option Nat} {v1 : Int32} {v2 : Int64} (h : L_X5_calculate v0 v1 v2 M = some z) : KC M z.2 := by
  unfold L_X5_calculate at h
  have hg : KC M M := KC.rf
  rcases itor h with h | h
  · rcases itor h with h | h
    · exact hg.trans (keepJ_X5_calculate_48 h)
    · obtain ⟨_, -, h⟩ := bnd h
      rcases itor h with h | h
      · exact hg.trans (keepJ_X5_calculate_48 h)
      · obtain ⟨_, -, h⟩ := bnd h
        obtain ⟨_, hw, h⟩ := bnd h
        have hg := hg.trans (kc_pI hw)
        obtain ⟨_, -, h⟩ := bnd h
        obtain ⟨_, -, h⟩ := bnd h
        obtain ⟨_, -, h⟩ := bnd h
        obtain ⟨_, -, h⟩ := bnd h
        obtain ⟨w44, hw, h⟩ := bnd h
        have hg := hg.trans (keep_X5_put hw)
        cases h; exact hg
  · obtain ⟨_, -, h⟩ := bnd h
    obtain ⟨w6, hw, h⟩ := bnd h
    have hg := hg.trans (keep_X5_put hw)
    cases h; exact hg
theorem keepJ_X5_evaluate_120 {M : Mem} {z : Int32 × Mem} {k_50 : Option Nat → Option Nat → Int32 → Mem → Option (Int32 × Mem)} (hk_50 : ∀ (v0 : Option Nat) (v2 : Option Nat) (v3 : Int32) (Ma : Mem), k_50 v0 v2 v3 Ma = some z → KC Ma z.2) {v0 : Option Nat} {v2 : Option Nat} {v3 : Int32} {s0 : Int32} (h : J_X5_evaluate_120 k_50 v0 v2 v3 s0 M = some z) : KC M z.2 := by
  unfold J_X5_evaluate_120 at h
  have hg : KC M M := KC.rf
  rcases itor h with h | h
  · exact hg.trans (hk_50 _ _ _ _ h)
  · cases h; exact hg
theorem keepJ_X5_evaluate_50 {z : Int32 × Mem} : ∀ (n : Nat) (v0 : Option Nat) (v2 : Option Nat) (v3 : Int32) (M : Mem), J_X5_evaluate_50 n v0 v2 v3 M = some z → KC M z.2 := by
  intro n
  induction n with
  | zero => intro v0 v2 v3 M h; exact nomatch h
  | succ n ih =>
    intro v0 v2 v3 M h
    unfold J_X5_evaluate_50 at h
    have hg : KC M M := KC.rf
    obtain ⟨_, -, h⟩ := bnd h
    obtain ⟨_, -, h⟩ := bnd h
    rcases itor h with h | h
    · cases h; exact hg
    · obtain ⟨_, -, h⟩ := bnd h
      obtain ⟨_, -, h⟩ := bnd h
      rcases itor h with h | h
      · rcases itor h with h | h
        · obtain ⟨_, -, h⟩ := bnd h
          obtain ⟨_, -, h⟩ := bnd h
          obtain ⟨_, -, h⟩ := bnd h
          obtain ⟨w117, hw, h⟩ := bnd h
          have hg := hg.trans (keep_X5_calculate hw)
          exact hg.trans (keepJ_X5_evaluate_120 ih h)
        · obtain ⟨_, -, h⟩ := bnd h
          obtain ⟨_, -, h⟩ := bnd h
          obtain ⟨_, -, h⟩ := bnd h
          obtain ⟨w102, hw, h⟩ := bnd h
          have hg := hg.trans (keep_X5_refer hw)
          exact hg.trans (keepJ_X5_evaluate_120 ih h)
      · obtain ⟨_, -, h⟩ := bnd h
        rcases itor h with h | h
        · cases h; exact hg
        · cases h; exact hg
theorem keep_X5_evaluate {M : Mem} {z : Int32 × Mem} {v0 : Option Nat} {v1 : Int32} (h : L_X5_evaluate v0 v1 M = some z) : KC M z.2 := by
  unfold L_X5_evaluate at h
  have hg : KC M M := KC.rf
  obtain ⟨_, -, h⟩ := bnd h
  obtain ⟨_, -, h⟩ := bnd h
  have h := nnz h
  obtain ⟨_, -, h⟩ := bnd h
  obtain ⟨_, -, h⟩ := bnd h
  rcases itor h with h | h
  · cases h; exact hg
  · have h := nnz h
    obtain ⟨_, -, h⟩ := bnd h
    obtain ⟨_, -, h⟩ := bnd h
    rcases itor h with h | h
    · obtain ⟨_, hw, h⟩ := bnd h
      have hg := hg.trans (kc_pI hw)
      obtain ⟨_, -, h⟩ := bnd h
      have h := nnz h
      obtain ⟨_, -, h⟩ := bnd h
      exact hg.trans (keepJ_X5_evaluate_50 FU _ _ _ _ h)
    · cases h; exact hg
theorem keepJ_X5_loseOpen_2 {z : Unit × Mem} : ∀ (n : Nat) (v0 : Option Nat) (v1 : Int32) (M : Mem), J_X5_loseOpen_2 n v0 v1 M = some z → KC M z.2 := by
  intro n
  induction n with
  | zero => intro v0 v1 M h; exact nomatch h
  | succ n ih =>
    intro v0 v1 M h
    unfold J_X5_loseOpen_2 at h
    have hg : KC M M := KC.rf
    obtain ⟨_, -, h⟩ := bnd h
    rcases itor h with h | h
    · obtain ⟨_, hw, h⟩ := bnd h
      have hg := hg.trans (kc_pI hw)
      cases h; exact hg
    · obtain ⟨_, -, h⟩ := bnd h
      obtain ⟨_, -, h⟩ := bnd h
      obtain ⟨_, -, h⟩ := bnd h
      obtain ⟨w18, hw, h⟩ := bnd h
      have hg := hg.trans (keep_X5_mark hw)
      exact hg.trans (ih _ _ _ h)
theorem keep_X5_loseOpen {M : Mem} {z : Unit × Mem} {v0 : Option Nat} (h : L_X5_loseOpen v0 M = some z) : KC M z.2 := by
  unfold L_X5_loseOpen at h
  have hg : KC M M := KC.rf
  exact hg.trans (keepJ_X5_loseOpen_2 FU _ _ _ h)
theorem keepJ_X5_settle_125 {M : Mem} {z : Unit × Mem} {k_12 : Option Nat → Int32 → Mem → Option (Unit × Mem)} (hk_12 : ∀ (v0 : Option Nat) (v2 : Int32) (Ma : Mem), k_12 v0 v2 Ma = some z → KC Ma z.2) {v0 : Option Nat} {v2 : Int32} (h : J_X5_settle_125 k_12 v0 v2 M = some z) : KC M z.2 := by
  unfold J_X5_settle_125 at h
  have hg : KC M M := KC.rf
  exact hg.trans (hk_12 _ _ _ h)
theorem keepJ_X5_settle_112 {M : Mem} {z : Unit × Mem} {k_12 : Option Nat → Int32 → Mem → Option (Unit × Mem)} (hk_12 : ∀ (v0 : Option Nat) (v2 : Int32) (Ma : Mem), k_12 v0 v2 Ma = some z → KC Ma z.2) {v0 : Option Nat} {v2 : Int32} (h : J_X5_settle_112 k_12 v0 v2 M = some z) : KC M z.2 := by
  unfold J_X5_settle_112 at h
  have hg : KC M M := KC.rf
  obtain ⟨_, -, h⟩ := bnd h
  obtain ⟨w113, hw, h⟩ := bnd h
  have hg := hg.trans (keep_X5_loseOpen hw)
  exact hg.trans (keepJ_X5_settle_125 hk_12 h)
theorem keepJ_X5_settle_12 {z : Unit × Mem} : ∀ (n : Nat) (v0 : Option Nat) (v2 : Int32) (M : Mem), J_X5_settle_12 n v0 v2 M = some z → KC M z.2 := by
  intro n
  induction n with
  | zero => intro v0 v2 M h; exact nomatch h
  | succ n ih =>
    intro v0 v2 M h
    unfold J_X5_settle_12 at h
    have hg : KC M M := KC.rf
    rcases itor h with h | h
    · cases h; exact hg
    · obtain ⟨_, -, h⟩ := bnd h
      rcases itor h with h | h
      · cases h; exact hg
      · obtain ⟨_, -, h⟩ := bnd h
        obtain ⟨_, -, h⟩ := bnd h
        obtain ⟨_, -, h⟩ := bnd h
        obtain ⟨_, -, h⟩ := bnd h
        obtain ⟨w39, hw, h⟩ := bnd h
        have hg := hg.trans (keep_X5_evaluate hw)
        rcases itor h with h | h
        · rcases itor h with h | h
          · exact hg.trans (keepJ_X5_settle_112 ih h)
          · obtain ⟨_, -, h⟩ := bnd h
            obtain ⟨w105, hw, h⟩ := bnd h
            have hg := hg.trans (keep_X5_markOf hw)
            rcases itor h with h | h
            · obtain ⟨_, -, h⟩ := bnd h
              obtain ⟨w122, hw, h⟩ := bnd h
              have hg := hg.trans (keep_X5_push hw)
              exact hg.trans (keepJ_X5_settle_125 ih h)
            · exact hg.trans (keepJ_X5_settle_112 ih h)
        · obtain ⟨_, -, h⟩ := bnd h
          obtain ⟨_, -, h⟩ := bnd h
          have h := nnz h
          obtain ⟨_, -, h⟩ := bnd h
          obtain ⟨_, -, h⟩ := bnd h
          have h := nnz h
          obtain ⟨_, -, h⟩ := bnd h
          obtain ⟨_, -, h⟩ := bnd h
          obtain ⟨_, hw, h⟩ := bnd h
          have hg := hg.trans (kc_uL hw)
          obtain ⟨_, -, h⟩ := bnd h
          obtain ⟨w79, hw, h⟩ := bnd h
          have hg := hg.trans (keep_X5_mark hw)
          obtain ⟨_, -, h⟩ := bnd h
          obtain ⟨_, hw, h⟩ := bnd h
          have hg := hg.trans (kc_pI hw)
          exact hg.trans (keepJ_X5_settle_125 ih h)
theorem keep_X5_settle {M : Mem} {z : Unit × Mem} {v0 : Option Nat} {v1 : Int32} (h : L_X5_settle v0 v1 M = some z) : KC M z.2 := by
  unfold L_X5_settle at h
  have hg : KC M M := KC.rf
  obtain ⟨_, hw, h⟩ := bnd h
  have hg := hg.trans (kc_pI hw)
  obtain ⟨_, -, h⟩ := bnd h
  obtain ⟨w7, hw, h⟩ := bnd h
  have hg := hg.trans (keep_X5_push hw)
  exact hg.trans (keepJ_X5_settle_12 FU _ _ _ h)
theorem keepJ_X5_settleAll_68 {M : Mem} {z : Unit × Mem} {k_2 : Option Nat → Int32 → Mem → Option (Unit × Mem)} (hk_2 : ∀ (v0 : Option Nat) (v1 : Int32) (Ma : Mem), k_2 v0 v1 Ma = some z → KC Ma z.2) {k_41 : Option Nat → Int32 → Option Nat → Int32 → Int32 → Mem → Option (Unit × Mem)} (hk_41 : ∀ (v0 : Option Nat) (v1 : Int32) (v2 : Option Nat) (v3 : Int32) (v4 : Int32) (Ma : Mem), k_41 v0 v1 v2 v3 v4 Ma = some z → KC Ma z.2) {v0 : Option Nat} {v1 : Int32} {v2 : Option Nat} {v3 : Int32} {v4 : Int32} (h : J_X5_settleAll_68 k_2 k_41 v0 v1 v2 v3 v4 M = some z) : KC M z.2 := by
  unfold J_X5_settleAll_68 at h
  have hg : KC M M := KC.rf
  exact hg.trans (hk_41 _ _ _ _ _ _ h)
theorem keepJ_X5_settleAll_41 {z : Unit × Mem} {k_2 : Option Nat → Int32 → Mem → Option (Unit × Mem)} (hk_2 : ∀ (v0 : Option Nat) (v1 : Int32) (Ma : Mem), k_2 v0 v1 Ma = some z → KC Ma z.2) : ∀ (n : Nat) (v0 : Option Nat) (v1 : Int32) (v2 : Option Nat) (v3 : Int32) (v4 : Int32) (M : Mem), J_X5_settleAll_41 k_2 n v0 v1 v2 v3 v4 M = some z → KC M z.2 := by
  intro n
  induction n with
  | zero => intro v0 v1 v2 v3 v4 M h; exact nomatch h
  | succ n ih =>
    intro v0 v1 v2 v3 v4 M h
    unfold J_X5_settleAll_41 at h
    have hg : KC M M := KC.rf
    rcases itor h with h | h
    · exact hg.trans (hk_2 _ _ _ h)
    · obtain ⟨_, -, h⟩ := bnd h
      obtain ⟨_, -, h⟩ := bnd h
      rcases itor h with h | h
      · exact hg.trans (keepJ_X5_settleAll_68 hk_2 ih h)
      · obtain ⟨_, -, h⟩ := bnd h
        obtain ⟨w65, hw, h⟩ := bnd h
        have hg := hg.trans (keep_X5_settle hw)
        exact hg.trans (keepJ_X5_settleAll_68 hk_2 ih h)
theorem keepJ_X5_settleAll_37 {M : Mem} {z : Unit × Mem} {k_2 : Option Nat → Int32 → Mem → Option (Unit × Mem)} (hk_2 : ∀ (v0 : Option Nat) (v1 : Int32) (Ma : Mem), k_2 v0 v1 Ma = some z → KC Ma z.2) {v0 : Option Nat} {v1 : Int32} {v2 : Option Nat} {s0 : Int32} (h : J_X5_settleAll_37 k_2 v0 v1 v2 s0 M = some z) : KC M z.2 := by
  unfold J_X5_settleAll_37 at h
  have hg : KC M M := KC.rf
  exact hg.trans (keepJ_X5_settleAll_41 hk_2 FU _ _ _ _ _ _ h)
theorem keepJ_X5_settleAll_2 {z : Unit × Mem} : ∀ (n : Nat) (v0 : Option Nat) (v1 : Int32) (M : Mem), J_X5_settleAll_2 n v0 v1 M = some z → KC M z.2 := by
  intro n
  induction n with
  | zero => intro v0 v1 M h; exact nomatch h
  | succ n ih =>
    intro v0 v1 M h
    unfold J_X5_settleAll_2 at h
    have hg : KC M M := KC.rf
    rcases itor h with h | h
    · cases h; exact hg
    · obtain ⟨_, -, h⟩ := bnd h
      obtain ⟨_, -, h⟩ := bnd h
      obtain ⟨_, -, h⟩ := bnd h
      obtain ⟨_, -, h⟩ := bnd h
      rcases itor h with h | h
      · obtain ⟨_, -, h⟩ := bnd h
        obtain ⟨_, -, h⟩ := bnd h
        obtain ⟨_, -, h⟩ := bnd h
        exact hg.trans (keepJ_X5_settleAll_37 ih h)
      · exact hg.trans (keepJ_X5_settleAll_37 ih h)
theorem keep_X5_settleAll {M : Mem} {z : Unit × Mem} {v0 : Option Nat} (h : L_X5_settleAll v0 M = some z) : KC M z.2 := by
  unfold L_X5_settleAll at h
  have hg : KC M M := KC.rf
  exact hg.trans (keepJ_X5_settleAll_2 FU _ _ _ h)
theorem keepJ_X7_put_3 {z : Unit × Mem} : ∀ (n : Nat) (v0 : Option Nat) (v1 : Int32) (v2 : Int32) (M : Mem), J_X7_put_3 n v0 v1 v2 M = some z → KC M z.2 := by
  intro n
  induction n with
  | zero => intro v0 v1 v2 M h; exact nomatch h
  | succ n ih =>
    intro v0 v1 v2 M h
    unfold J_X7_put_3 at h
    have hg : KC M M := KC.rf
    rcases itor h with h | h
    · cases h; exact hg
    · obtain ⟨_, -, h⟩ := bnd h
      obtain ⟨_, -, h⟩ := bnd h
      obtain ⟨_, -, h⟩ := bnd h
      rcases itor h with h | h
      · cases h; exact hg
      · obtain ⟨_, -, h⟩ := bnd h
        obtain ⟨_, -, h⟩ := bnd h
        obtain ⟨_, hw, h⟩ := bnd h
        have hg := hg.trans (kc_uN hw)
        obtain ⟨_, -, h⟩ := bnd h
        obtain ⟨_, hw, h⟩ := bnd h
        have hg := hg.trans (kc_pI hw)
        exact hg.trans (ih _ _ _ _ h)
theorem keep_X7_put {M : Mem} {z : Unit × Mem} {v0 : Option Nat} {v1 : Int32} (h : L_X7_put v0 v1 M = some z) : KC M z.2 := by
  unfold L_X7_put at h
  have hg : KC M M := KC.rf
  exact hg.trans (keepJ_X7_put_3 FU _ _ _ _ h)
theorem keep_X9_init {M : Mem} {z : Unit × Mem} {v0 : Option Nat} {v1 : Int32} {v2 : Int32} (h : L_X9_init v0 v1 v2 M = some z) : KX v0 M z.2 := by
  unfold L_X9_init at h
  have hg : KX v0 M M := KX.rf
  have h := nnz h
  obtain ⟨_, hw, h⟩ := bnd h
  have hg := hg.step (kx_pI hw)
  obtain ⟨_, hw, h⟩ := bnd h
  have hg := hg.step (kx_pI hw)
  obtain ⟨_, hw, h⟩ := bnd h
  have hg := hg.trans (kc_nA hw)
  obtain ⟨_, hw, h⟩ := bnd h
  have hg := hg.step (kx_pR hw)
  obtain ⟨_, hw, h⟩ := bnd h
  have hg := hg.trans (kc_nA hw)
  obtain ⟨_, hw, h⟩ := bnd h
  have hg := hg.step (kx_pR hw)
  obtain ⟨_, hw, h⟩ := bnd h
  have hg := hg.trans (kc_nA hw)
  obtain ⟨_, hw, h⟩ := bnd h
  have hg := hg.step (kx_pR hw)
  obtain ⟨_, hw, h⟩ := bnd h
  have hg := hg.trans (kc_nA hw)
  obtain ⟨_, hw, h⟩ := bnd h
  have hg := hg.step (kx_pR hw)
  cases h; exact hg
theorem keep_X9_addLock {M : Mem} {z : Unit × Mem} {v0 : Option Nat} {v1 : Int32} {v2 : Int32} {v3 : Int32} (h : L_X9_addLock v0 v1 v2 v3 M = some z) : KC M z.2 := by
  unfold L_X9_addLock at h
  have hg : KC M M := KC.rf
  obtain ⟨_, -, h⟩ := bnd h
  rcases itor h with h | h
  · cases h; exact hg
  · obtain ⟨_, -, h⟩ := bnd h
    obtain ⟨_, -, h⟩ := bnd h
    obtain ⟨_, hw, h⟩ := bnd h
    have hg := hg.trans (kc_uI hw)
    obtain ⟨_, -, h⟩ := bnd h
    obtain ⟨_, -, h⟩ := bnd h
    obtain ⟨_, hw, h⟩ := bnd h
    have hg := hg.trans (kc_uI hw)
    obtain ⟨_, -, h⟩ := bnd h
    obtain ⟨_, -, h⟩ := bnd h
    obtain ⟨_, hw, h⟩ := bnd h
    have hg := hg.trans (kc_uI hw)
    obtain ⟨_, -, h⟩ := bnd h
    obtain ⟨_, hw, h⟩ := bnd h
    have hg := hg.trans (kc_pI hw)
    cases h; exact hg
theorem keep_X10_feed {M : Mem} {z : Int32 × Mem} {v0 : Option Nat} {v1 : Int32} {v2 : Int32} {v3 : Int32} {v4 : Int32} {v5 : Int32} (h : L_X10_feed v0 v1 v2 v3 v4 v5 M = some z) : KC M z.2 := by
  unfold L_X10_feed at h
  have hg : KC M M := KC.rf
  obtain ⟨_, -, h⟩ := bnd h
  obtain ⟨_, -, h⟩ := bnd h
  rcases itor h with h | h
  · obtain ⟨_, -, h⟩ := bnd h
    obtain ⟨_, -, h⟩ := bnd h
    obtain ⟨w23, hw, h⟩ := bnd h
    have hg := hg.trans (keep_X7_put hw)
    obtain ⟨_, -, h⟩ := bnd h
    obtain ⟨_, -, h⟩ := bnd h
    obtain ⟨w31, hw, h⟩ := bnd h
    have hg := hg.trans (keep_X7_put hw)
    obtain ⟨_, -, h⟩ := bnd h
    obtain ⟨_, -, h⟩ := bnd h
    obtain ⟨w39, hw, h⟩ := bnd h
    have hg := hg.trans (keep_X7_put hw)
    obtain ⟨_, -, h⟩ := bnd h
    obtain ⟨_, -, h⟩ := bnd h
    obtain ⟨w48, hw, h⟩ := bnd h
    have hg := hg.trans (keep_X7_put hw)
    obtain ⟨_, -, h⟩ := bnd h
    obtain ⟨_, -, h⟩ := bnd h
    obtain ⟨w57, hw, h⟩ := bnd h
    have hg := hg.trans (keep_X7_put hw)
    obtain ⟨_, -, h⟩ := bnd h
    obtain ⟨_, -, h⟩ := bnd h
    cases h; exact hg
  · cases h; exact hg
theorem keep_X10_end {M : Mem} {z : Int32 × Mem} {v0 : Option Nat} {v1 : Int32} (h : L_X10_end v0 v1 M = some z) : KC M z.2 := by
  unfold L_X10_end at h
  have hg : KC M M := KC.rf
  rcases itor h with h | h
  · cases h; exact hg
  · obtain ⟨_, -, h⟩ := bnd h
    obtain ⟨_, -, h⟩ := bnd h
    rcases itor h with h | h
    · obtain ⟨_, -, h⟩ := bnd h
      obtain ⟨_, hw, h⟩ := bnd h
      have hg := hg.trans (kc_pI hw)
      cases h; exact hg
    · cases h; exact hg
theorem keep_X10_sheet {M : Mem} {z : Int32 × Mem} {v0 : Option Nat} {v1 : Int32} (h : L_X10_sheet v0 v1 M = some z) : KC M z.2 := by
  unfold L_X10_sheet at h
  have hg : KC M M := KC.rf
  obtain ⟨w2, hw, h⟩ := bnd h
  have hg := hg.trans (keep_X10_yearIndex hw)
  rcases itor h with h | h
  · obtain ⟨_, -, h⟩ := bnd h
    obtain ⟨_, -, h⟩ := bnd h
    obtain ⟨w19, hw, h⟩ := bnd h
    have hg := hg.trans (keep_X4_read hw)
    obtain ⟨_, -, h⟩ := bnd h
    obtain ⟨_, hw, h⟩ := bnd h
    have hg := hg.trans (kc_pI hw)
    rcases itor h with h | h
    · obtain ⟨_, -, h⟩ := bnd h
      obtain ⟨_, -, h⟩ := bnd h
      obtain ⟨w43, hw, h⟩ := bnd h
      have hg := hg.trans (keep_X1_change hw)
      obtain ⟨_, -, h⟩ := bnd h
      cases h; exact hg
    · cases h; exact hg
  · cases h; exact hg
theorem keep_X10_fault {M : Mem} {z : Int32 × Mem} {v0 : Option Nat} {v1 : Int32} (h : L_X10_fault v0 v1 M = some z) : KC M z.2 := by
  unfold L_X10_fault at h
  have hg : KC M M := KC.rf
  rcases itor h with h | h
  · obtain ⟨_, -, h⟩ := bnd h
    obtain ⟨_, -, h⟩ := bnd h
    cases h; exact hg
  rcases itor h with h | h
  · obtain ⟨_, -, h⟩ := bnd h
    obtain ⟨_, -, h⟩ := bnd h
    cases h; exact hg
  cases h; exact hg
theorem keep_X10_forget {M : Mem} {z : Int32 × Mem} {v0 : Option Nat} {v1 : Int32} (h : L_X10_forget v0 v1 M = some z) : KC M z.2 := by
  unfold L_X10_forget at h
  have hg : KC M M := KC.rf
  obtain ⟨w2, hw, h⟩ := bnd h
  have hg := hg.trans (keep_X10_yearIndex hw)
  rcases itor h with h | h
  · obtain ⟨_, -, h⟩ := bnd h
    cases h; exact hg
  · obtain ⟨_, -, h⟩ := bnd h
    obtain ⟨_, -, h⟩ := bnd h
    obtain ⟨_, -, h⟩ := bnd h
    rcases itor h with h | h
    · obtain ⟨_, -, h⟩ := bnd h
      obtain ⟨_, -, h⟩ := bnd h
      obtain ⟨w31, hw, h⟩ := bnd h
      have hg := hg.trans (keep_X1_change hw)
      obtain ⟨_, -, h⟩ := bnd h
      cases h; exact hg
    · obtain ⟨_, -, h⟩ := bnd h
      cases h; exact hg
theorem keep_X10_issue {M : Mem} {z : Int32 × Mem} {v0 : Option Nat} (h : L_X10_issue v0 M = some z) : KC M z.2 := by
  unfold L_X10_issue at h
  have hg : KC M M := KC.rf
  obtain ⟨_, -, h⟩ := bnd h
  obtain ⟨_, -, h⟩ := bnd h
  obtain ⟨w4, hw, h⟩ := bnd h
  have hg := hg.trans (keep_X1_renew hw)
  obtain ⟨_, -, h⟩ := bnd h
  obtain ⟨_, -, h⟩ := bnd h
  obtain ⟨w12, hw, h⟩ := bnd h
  have hg := hg.trans (keep_X5_settleAll hw)
  cases h; exact hg
theorem keep_X10_sheetState {M : Mem} {z : Int32 × Mem} {v0 : Option Nat} {v1 : Int32} (h : L_X10_sheetState v0 v1 M = some z) : KC M z.2 := by
  unfold L_X10_sheetState at h
  have hg : KC M M := KC.rf
  rcases itor h with h | h
  · rcases itor h with h | h
    · obtain ⟨_, -, h⟩ := bnd h
      obtain ⟨_, -, h⟩ := bnd h
      cases h; exact hg
    · cases h; exact hg
  rcases itor h with h | h
  · rcases itor h with h | h
    · obtain ⟨_, -, h⟩ := bnd h
      obtain ⟨_, -, h⟩ := bnd h
      cases h; exact hg
    · cases h; exact hg
  rcases itor h with h | h
  · rcases itor h with h | h
    · cases h; exact hg
    · obtain ⟨_, -, h⟩ := bnd h
      rcases itor h with h | h
      · obtain ⟨_, -, h⟩ := bnd h
        cases h; exact hg
      · cases h; exact hg
  cases h; exact hg
theorem keepJ_X10_state_108 {M : Mem} {z : Int32 × Mem} {v0 : Option Nat} {v2 : Int32} {v3 : Int32} (h : J_X10_state_108 v0 v2 v3 M = some z) : KC M z.2 := by
  unfold J_X10_state_108 at h
  have hg : KC M M := KC.rf
  obtain ⟨_, -, h⟩ := bnd h
  obtain ⟨_, -, h⟩ := bnd h
  obtain ⟨_, -, h⟩ := bnd h
  obtain ⟨w118, hw, h⟩ := bnd h
  have hg := hg.trans (keep_X10_sheetState hw)
  cases h; exact hg
theorem keep_X10_state {M : Mem} {z : Int32 × Mem} {v0 : Option Nat} {v1 : Int32} {v2 : Int32} (h : L_X10_state v0 v1 v2 M = some z) : KC M z.2 := by
  unfold L_X10_state at h
  have hg : KC M M := KC.rf
  obtain ⟨w2, hw, h⟩ := bnd h
  have hg := hg.trans (keep_X10_yearIndex hw)
  rcases itor h with h | h
  · obtain ⟨_, -, h⟩ := bnd h
    obtain ⟨_, -, h⟩ := bnd h
    obtain ⟨_, -, h⟩ := bnd h
    rcases itor h with h | h
    · obtain ⟨_, -, h⟩ := bnd h
      cases h; exact hg
    rcases itor h with h | h
    · obtain ⟨_, -, h⟩ := bnd h
      cases h; exact hg
    rcases itor h with h | h
    · obtain ⟨_, -, h⟩ := bnd h
      cases h; exact hg
    rcases itor h with h | h
    · obtain ⟨_, -, h⟩ := bnd h
      cases h; exact hg
    rcases itor h with h | h
    · obtain ⟨_, -, h⟩ := bnd h
      obtain ⟨_, -, h⟩ := bnd h
      cases h; exact hg
    exact hg.trans (keepJ_X10_state_108 h)
  · cases h; exact hg
theorem keep_X10_leans {M : Mem} {z : Int32 × Mem} {v0 : Option Nat} {v1 : Int32} {v2 : Int32} (h : L_X10_leans v0 v1 v2 M = some z) : KC M z.2 := by
  unfold L_X10_leans at h
  have hg : KC M M := KC.rf
  obtain ⟨w2, hw, h⟩ := bnd h
  have hg := hg.trans (keep_X10_yearIndex hw)
  obtain ⟨w8, hw, h⟩ := bnd h
  have hg := hg.trans (keep_X10_yearIndex hw)
  rcases itor h with h | h
  · obtain ⟨_, -, h⟩ := bnd h
    cases h; exact hg
  · rcases itor h with h | h
    · obtain ⟨_, -, h⟩ := bnd h
      obtain ⟨_, -, h⟩ := bnd h
      obtain ⟨_, -, h⟩ := bnd h
      rcases itor h with h | h
      · obtain ⟨_, -, h⟩ := bnd h
        cases h; exact hg
      · obtain ⟨_, -, h⟩ := bnd h
        rcases itor h with h | h
        · obtain ⟨_, -, h⟩ := bnd h
          cases h; exact hg
        · obtain ⟨_, -, h⟩ := bnd h
          cases h; exact hg
    · obtain ⟨_, -, h⟩ := bnd h
      cases h; exact hg
theorem keep_X10_constant {M : Mem} {z : Int64 × Mem} {v0 : Option Nat} {v1 : Int32} {v2 : Int32} (h : L_X10_constant v0 v1 v2 M = some z) : KC M z.2 := by
  unfold L_X10_constant at h
  have hg : KC M M := KC.rf
  obtain ⟨w2, hw, h⟩ := bnd h
  have hg := hg.trans (keep_X10_yearIndex hw)
  rcases itor h with h | h
  · obtain ⟨_, -, h⟩ := bnd h
    obtain ⟨_, -, h⟩ := bnd h
    obtain ⟨_, -, h⟩ := bnd h
    obtain ⟨_, -, h⟩ := bnd h
    obtain ⟨w25, hw, h⟩ := bnd h
    have hg := hg.trans (keep_X8_valueOf hw)
    cases h; exact hg
  · cases h; exact hg
theorem keep_X10_entry {M : Mem} {z : Int64 × Mem} {v0 : Option Nat} {v1 : Int32} {v2 : Int32} {v3 : Int32} (h : L_X10_entry v0 v1 v2 v3 M = some z) : KC M z.2 := by
  unfold L_X10_entry at h
  have hg : KC M M := KC.rf
  obtain ⟨w2, hw, h⟩ := bnd h
  have hg := hg.trans (keep_X10_yearIndex hw)
  rcases itor h with h | h
  · cases h; exact hg
  · obtain ⟨_, -, h⟩ := bnd h
    obtain ⟨_, -, h⟩ := bnd h
    obtain ⟨_, -, h⟩ := bnd h
    obtain ⟨_, -, h⟩ := bnd h
    obtain ⟨w26, hw, h⟩ := bnd h
    have hg := hg.trans (keep_X8_hasEntry hw)
    rcases itor h with h | h
    · obtain ⟨_, -, h⟩ := bnd h
      obtain ⟨_, -, h⟩ := bnd h
      obtain ⟨_, -, h⟩ := bnd h
      obtain ⟨_, -, h⟩ := bnd h
      obtain ⟨_, -, h⟩ := bnd h
      cases h; exact hg
    · cases h; exact hg
theorem keep_X10_need {M : Mem} {z : Int32 × Mem} {v0 : Option Nat} {v1 : Int32} (h : L_X10_need v0 v1 M = some z) : KC M z.2 := by
  unfold L_X10_need at h
  have hg : KC M M := KC.rf
  obtain ⟨w2, hw, h⟩ := bnd h
  have hg := hg.trans (keep_X10_yearIndex hw)
  rcases itor h with h | h
  · obtain ⟨_, -, h⟩ := bnd h
    obtain ⟨_, -, h⟩ := bnd h
    obtain ⟨w18, hw, h⟩ := bnd h
    have hg := hg.trans (keep_X3_summon hw)
    cases h; exact hg
  · cases h; exact hg
theorem keep_X10_started {M : Mem} {z : Int32 × Mem} {v0 : Option Nat} {v1 : Int32} (h : L_X10_started v0 v1 M = some z) : KC M z.2 := by
  unfold L_X10_started at h
  have hg : KC M M := KC.rf
  rcases itor h with h | h
  · cases h; exact hg
  · rcases itor h with h | h
    · cases h; exact hg
    · obtain ⟨_, -, h⟩ := bnd h
      obtain ⟨_, -, h⟩ := bnd h
      rcases itor h with h | h
      · obtain ⟨_, -, h⟩ := bnd h
        obtain ⟨_, -, h⟩ := bnd h
        obtain ⟨_, -, h⟩ := bnd h
        cases h; exact hg
      · cases h; exact hg
theorem keepJ_X10_voyage_25 {M : Mem} {z : Int32 × Mem} {v0 : Option Nat} {v1 : Int32} {v2 : Int32} {s0 : Int32} (h : J_X10_voyage_25 v0 v1 v2 s0 M = some z) : KC M z.2 := by
  unfold J_X10_voyage_25 at h
  have hg : KC M M := KC.rf
  rcases itor h with h | h
  · cases h; exact hg
  · obtain ⟨_, -, h⟩ := bnd h
    rcases itor h with h | h
    · obtain ⟨_, -, h⟩ := bnd h
      obtain ⟨_, -, h⟩ := bnd h
      have hg0 := hg
      obtain ⟨w55, hw, h⟩ := bnd h
      have hg := kx_new hg0 (keep_X9_init hw)
      obtain ⟨_, hw, h⟩ := bnd h
      have hg := hg.trans (kc_uR (by first | exact fx25 | exact fx28) hw)
      obtain ⟨_, -, h⟩ := bnd h
      obtain ⟨_, hw, h⟩ := bnd h
      have hg := hg.trans (kc_pI hw)
      obtain ⟨_, -, h⟩ := bnd h
      cases h; exact hg
    · cases h; exact hg
theorem keepJ_X10_voyage_24 {M : Mem} {z : Int32 × Mem} {v0 : Option Nat} {v1 : Int32} {v2 : Int32} (h : J_X10_voyage_24 v0 v1 v2 M = some z) : KC M z.2 := by
  unfold J_X10_voyage_24 at h
  have hg : KC M M := KC.rf
  exact hg.trans (keepJ_X10_voyage_25 h)
theorem keep_X10_voyage {M : Mem} {z : Int32 × Mem} {v0 : Option Nat} {v1 : Int32} {v2 : Int32} (h : L_X10_voyage v0 v1 v2 M = some z) : KC M z.2 := by
  unfold L_X10_voyage at h
  have hg : KC M M := KC.rf
  rcases itor h with h | h
  · exact hg.trans (keepJ_X10_voyage_24 h)
  · rcases itor h with h | h
    · exact hg.trans (keepJ_X10_voyage_24 h)
    · rcases itor h with h | h
      · exact hg.trans (keepJ_X10_voyage_24 h)
      · rcases itor h with h | h
        · exact hg.trans (keepJ_X10_voyage_24 h)
        · exact hg.trans (keepJ_X10_voyage_25 h)
theorem keepJ_X10_voyageOf_21 {M : Mem} {z : Option Nat × Mem} (h : J_X10_voyageOf_21  M = some z) : KC M z.2 := by
  unfold J_X10_voyageOf_21 at h
  have hg : KC M M := KC.rf
  cases h; exact hg
theorem keep_X10_voyageOf {M : Mem} {z : Option Nat × Mem} {v0 : Option Nat} {v1 : Int32} (h : L_X10_voyageOf v0 v1 M = some z) : KC M z.2 := by
  unfold L_X10_voyageOf at h
  have hg : KC M M := KC.rf
  rcases itor h with h | h
  · exact hg.trans (keepJ_X10_voyageOf_21 h)
  · obtain ⟨_, -, h⟩ := bnd h
    rcases itor h with h | h
    · exact hg.trans (keepJ_X10_voyageOf_21 h)
    · obtain ⟨_, -, h⟩ := bnd h
      obtain ⟨_, -, h⟩ := bnd h
      cases h; exact hg
theorem keepJ_X10_lock_49 {M : Mem} {z : Int32 × Mem} {v2 : Int32} {v4 : Int32} {v5 : Option Nat} {v6 : Int32} {s0 : Int32} (h : J_X10_lock_49 v2 v4 v5 v6 s0 M = some z) : KC M z.2 := by
  unfold J_X10_lock_49 at h
  have hg : KC M M := KC.rf
  rcases itor h with h | h
  · cases h; exact hg
  · rcases itor h with h | h
    · cases h; exact hg
    · obtain ⟨_, -, h⟩ := bnd h
      rcases itor h with h | h
      · obtain ⟨_, -, h⟩ := bnd h
        obtain ⟨w80, hw, h⟩ := bnd h
        have hg := hg.trans (keep_X9_addLock hw)
        obtain ⟨_, -, h⟩ := bnd h
        cases h; exact hg
      · cases h; exact hg
theorem keepJ_X10_lock_48 {M : Mem} {z : Int32 × Mem} {v2 : Int32} {v4 : Int32} {v5 : Option Nat} {v6 : Int32} (h : J_X10_lock_48 v2 v4 v5 v6 M = some z) : KC M z.2 := by
  unfold J_X10_lock_48 at h
  have hg : KC M M := KC.rf
  exact hg.trans (keepJ_X10_lock_49 h)
theorem keep_X10_lock {M : Mem} {z : Int32 × Mem} {v0 : Option Nat} {v1 : Int32} {v2 : Int32} {v3 : Int32} {v4 : Int32} (h : L_X10_lock v0 v1 v2 v3 v4 M = some z) : KC M z.2 := by
  unfold L_X10_lock at h
  have hg : KC M M := KC.rf
  obtain ⟨_, -, h⟩ := bnd h
  obtain ⟨w2, hw, h⟩ := bnd h
  have hg := hg.trans (keep_X10_voyageOf hw)
  obtain ⟨w9, hw, h⟩ := bnd h
  have hg := hg.trans (keep_X10_yearIndex hw)
  rcases itor h with h | h
  · exact hg.trans (keepJ_X10_lock_48 h)
  · rcases itor h with h | h
    · exact hg.trans (keepJ_X10_lock_48 h)
    · rcases itor h with h | h
      · exact hg.trans (keepJ_X10_lock_48 h)
      · rcases itor h with h | h
        · exact hg.trans (keepJ_X10_lock_48 h)
        · rcases itor h with h | h
          · exact hg.trans (keepJ_X10_lock_48 h)
          · exact hg.trans (keepJ_X10_lock_49 h)
theorem keep_X10_bill {M : Mem} {z : Int32 × Mem} {v0 : Option Nat} {v1 : Int32} (h : L_X10_bill v0 v1 M = some z) : KC M z.2 := by
  unfold L_X10_bill at h
  have hg : KC M M := KC.rf
  obtain ⟨_, -, h⟩ := bnd h
  obtain ⟨w2, hw, h⟩ := bnd h
  have hg := hg.trans (keep_X10_voyageOf hw)
  rcases itor h with h | h
  · cases h; exact hg
  · obtain ⟨_, -, h⟩ := bnd h
    rcases itor h with h | h
    · obtain ⟨_, -, h⟩ := bnd h
      obtain ⟨_, -, h⟩ := bnd h
      obtain ⟨w24, hw, h⟩ := bnd h
      have hg := hg.trans (keep_X3_charge hw)
      rcases itor h with h | h
      · obtain ⟨_, -, h⟩ := bnd h
        obtain ⟨_, hw, h⟩ := bnd h
        have hg := hg.trans (kc_pI hw)
        cases h; exact hg
      · obtain ⟨_, -, h⟩ := bnd h
        obtain ⟨_, hw, h⟩ := bnd h
        have hg := hg.trans (kc_pI hw)
        cases h; exact hg
    · cases h; exact hg
theorem keep_X10_line {M : Mem} {z : Int64 × Mem} {v0 : Option Nat} {v1 : Int32} {v2 : Int32} (h : L_X10_line v0 v1 v2 M = some z) : KC M z.2 := by
  unfold L_X10_line at h
  have hg : KC M M := KC.rf
  obtain ⟨_, -, h⟩ := bnd h
  obtain ⟨w2, hw, h⟩ := bnd h
  have hg := hg.trans (keep_X10_voyageOf hw)
  rcases itor h with h | h
  · cases h; exact hg
  · rcases itor h with h | h
    · cases h; exact hg
    · obtain ⟨_, -, h⟩ := bnd h
      rcases itor h with h | h
      · cases h; exact hg
      · obtain ⟨_, -, h⟩ := bnd h
        rcases itor h with h | h
        · rcases itor h with h | h
          · obtain ⟨_, -, h⟩ := bnd h
            obtain ⟨_, -, h⟩ := bnd h
            cases h; exact hg
          · obtain ⟨_, -, h⟩ := bnd h
            cases h; exact hg
        · cases h; exact hg
theorem keep_X10_count {M : Mem} {z : Int32 × Mem} {v0 : Option Nat} {v1 : Int32} (h : L_X10_count v0 v1 M = some z) : KC M z.2 := by
  unfold L_X10_count at h
  have hg : KC M M := KC.rf
  rcases itor h with h | h
  · obtain ⟨_, -, h⟩ := bnd h
    obtain ⟨_, -, h⟩ := bnd h
    cases h; exact hg
  rcases itor h with h | h
  · obtain ⟨_, -, h⟩ := bnd h
    obtain ⟨_, -, h⟩ := bnd h
    cases h; exact hg
  rcases itor h with h | h
  · obtain ⟨_, -, h⟩ := bnd h
    cases h; exact hg
  rcases itor h with h | h
  · obtain ⟨_, -, h⟩ := bnd h
    cases h; exact hg
  rcases itor h with h | h
  · obtain ⟨_, -, h⟩ := bnd h
    cases h; exact hg
  cases h; exact hg

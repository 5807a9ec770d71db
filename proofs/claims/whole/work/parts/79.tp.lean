-- ===== a line of a bill, in both =====
def ppA (A : Mem) (q k : Nat) : Mem := sl (sl (sl (sl A 178 0 (gi A q 0).toInt64) 178 1 (gi A q 1).toInt64) 178 2 (gi A (q + 1) k).toInt64) 178 3 (gi A (q + 3) k).toInt64
/-- a voyage's object and rows, as far as a line reads them -/
def VyO (A : Mem) (q : Nat) : Prop := 231 ≤ q ∧ (kd A q = 9 ∧ kd A (q + 1) = 20 ∧ kd A (q + 2) = 20 ∧ kd A (q + 3) = 20 ∧ kd A (q + 4) = 21) ∧ (ln A (q + 1) = 8 ∧ ln A (q + 2) = 8 ∧ ln A (q + 3) = 8 ∧ ln A (q + 4) = 8) ∧ (gr A q 3 = some (q + 1) ∧ gr A q 4 = some (q + 2) ∧ gr A q 5 = some (q + 3) ∧ gr A q 6 = some (q + 4))
theorem prep_eq {A : Mem} {q k : Nat} (h : VyO A q) (hk : k < 8) : S_X3_prepare (some q) (ni k) A = some ((), ppA A q k) := by
  obtain ⟨h0, ⟨k0, k1, k2, k3, k4⟩, ⟨l1, l2, l3, l4⟩, ⟨r3, r4, r5, r6⟩⟩ := h
  unfold S_X3_prepare ppA
  rw [bi_fI k0, gdT (by decide), bi_fI (M := sl A 178 _ _) k0, gdT (by decide), bi_fR (M := sl (sl A 178 _ _) 178 _ _) k0 r3, bi_aI (M := sl (sl A 178 _ _) 178 _ _) k1 l1, gdT ((ni_inb (by omega)).mpr hk), gdT (by decide), bi_fR (M := sl (sl (sl A 178 _ _) 178 _ _) 178 _ _) k0 r5, bi_aI (M := sl (sl (sl A 178 _ _) 178 _ _) 178 _ _) k3 l3, gdT ((ni_inb (by omega)).mpr hk), gdT (by decide), ni_tn (by omega)]
  rfl
theorem ppA_pa {A : Mem} {q k : Nat} : PA A (ppA A q k) := by
  unfold ppA
  exact (((frv_sl (by omega)).tr (frv_sl (by omega))).tr (frv_sl (by omega))).tr (frv_sl (by omega))
theorem ppA_gl {A : Mem} {q k : Nat} : gl (ppA A q k) 178 0 = (gi A q 0).toInt64 ∧ gl (ppA A q k) 178 1 = (gi A q 1).toInt64 ∧ gl (ppA A q k) 178 2 = (gi A (q + 1) k).toInt64 ∧ gl (ppA A q k) 178 3 = (gi A (q + 3) k).toInt64 := by
  unfold ppA
  refine ⟨?_, ?_, ?_, sl_eq⟩
  · rw [gl_sl, if_neg (by omega), gl_sl, if_neg (by omega), gl_sl, if_neg (by omega), sl_eq]
  · rw [gl_sl, if_neg (by omega), gl_sl, if_neg (by omega), sl_eq]
  · rw [gl_sl, if_neg (by omega), sl_eq]
/-- a year's rule, once the settings stand -/
theorem wrule_mi {L y : Nat} {A B : Mem} {v1 : Nat} (hv : v1 < 160) (hL : L < 1000000) (hy : y < 30) (m : Mi L A B) (e63 : gi B 181 63 = 0) (hg : Stg A (si (si B 181 69 (gi B 225 v1)) 181 70 (gi B 227 v1))) :
    ∃ x A' B', S_X3_workRule (ni y) A = some (x, A') ∧ SJ_X11_lined_25 FU (ni v1) (ni y) 0 B = some (x, B') ∧ ¬ x = -1 ∧ Mi L A' B' ∧ gi B' 181 63 = 0 ∧ WA A A' ∧ WB2 B B' ∧ (x = 0 → gl A' 144 6 = gl B' 181 71) ∧ ∀ j, j = 67 ∨ j = 68 ∨ 70 < j → gi B' 181 j = gi B 181 j := by
  unfold S_X3_workRule
  rw [find_rl m.1 m.2.2.1 hy, bS, lined_rl m.2.2.1 hy]; dsimp only
  cases hf : fdG A (hitR A) 30 y with
  | none =>
    rw [if_neg (show ¬ ¬ fdI none = -1 from fun q => q rfl)]
    exact ⟨802, A, B, rfl, rfl, by decide, m, e63, FrV.rf, FrV.rf, fun e => absurd e (by decide), fun _ _ => rfl⟩
  | some p =>
    obtain ⟨p30, s, hs, hh⟩ := fdG_lt hf
    have p2 : p.2 = 0 := by
      unfold hitR at hh
      split at hh
      · cases hh
      · exact (Option.some.inj hh).symm
    have g := m.2.2.1 p.1 p30
    rw [hs] at g
    obtain ⟨i1, i2⟩ := id_div p30 (show p.2 < 8 by omega)
    have pb : PB B (si (si B 181 69 (gi B 225 v1)) 181 70 (gi B 227 v1)) := (frv_si (by omega)).tr (frv_si (by omega))
    obtain ⟨x, A2, B2, r, c, z1, z2, z3, z4, z5, z6, z7, z8, z9, z10, z11, z12, z13⟩ := rule_mi hL p30 (mi_p m (FrV.rf (A := A)) pb) (by rw [si_ff' (by omega), si_ff' (by omega)]; exact e63) hg hs (by rw [hh]; simp)
    have z1' : gi B 207 (30 + p.1) = ni r := by rw [gi_ne (by omega), gi_ne (by omega)] at z1; exact z1
    have e0 : gi (sl (si (si A 144 2 0) 144 4 0) 144 6 0) 144 2 = ni 0 := by rw [gi_sl, si_ff' (by omega), si_eq]; rfl
    have e1 : gi (sl (si (si A 144 2 0) 144 4 0) 144 6 0) 144 4 = ni 0 := by rw [gi_sl, si_eq]; rfl
    refine ⟨x, A2, B2, ?_, ?_, z7, z8, z9, z10, FrV.tr pb.q z11, z12, fun j hj => by rw [z13 j (by omega), si_ff' (by omega), si_ff' (by omega)]⟩
    · rw [show fdI (some p) = ni (8 * p.1 + p.2) from rfl, if_pos (ni_ne1 (by omega)), i1, gdT ((ni_inb (by omega)).mpr p30)]
      simp only [show (ni p.1).toNatClampNeg = p.1 from ni_tn (by omega)]
      rw [hs, if_pos (by simp), bi_fI (show kd (sl (si (si A 144 2 0) 144 4 0) 144 6 0) s = 6 from g.2.1.2.2.1), show gi (sl (si (si A 144 2 0) 144 4 0) 144 6 0) s 3 = ni c by rw [gi_sl, gi_ne (by have := g.2.1.1; omega), gi_ne (by have := g.2.1.1; omega)]; exact z3, open_eq e0 e1 (by omega) (Or.inl rfl), bS]; dsimp only
      rw [z5, bS]
    · unfold rlE SJ_X11_lined_81; dsimp only
      rw [if_neg (ni_n0 (by omega)), show (30 : Int32) + ni p.1 = ni (30 + p.1) from ni_add 30 p.1, gdT ((ni_inb (by omega)).mpr (by omega)), gdT ((ni_inb (by omega)).mpr (by omega)), gdT ((ni_inb (by omega)).mpr (by omega)), gdT ((ni_inb (by omega)).mpr (by omega)), gdT ((ni_inb (by omega)).mpr (by omega))]
      simp only [show (ni (30 + p.1)).toNatClampNeg = 30 + p.1 from ni_tn (by omega), show (ni v1).toNatClampNeg = v1 from ni_tn (by omega)]
      rw [if_neg (show ¬ gi B 194 (30 + p.1) = 0 by rw [g.1]; decide), z1', if_pos (show (0 : Int32) ≤ ni r from (ni_le (a := 0) (by omega) (by omega)).mpr (by omega)), gi_ne (show 227 ≠ 181 by omega), z1, z6, bS]

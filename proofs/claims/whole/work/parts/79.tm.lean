-- ===== the rule of a year, in both =====
def hitR (A : Mem) (s : Nat) : Option Nat := if gi A s 3 = -1 then none else some 0
theorem fdG_32 {A : Mem} {hit : Nat → Option Nat} {y : Nat} : fdG A hit 32 y = fdG A hit 30 y := by
  have h1 : ∀ x, fdG A hit 31 x ≠ none → fdG A hit 30 x ≠ none := fun x hx => by rw [← fdG_31]; exact hx
  have h2 := fdG_stab (m := 30) h1
  rw [← fdG_31]
  cases h : fdG A hit 31 y with
  | some q => exact fdG_mono h
  | none =>
    cases h3 : fdG A hit 32 y with
    | none => rfl
    | some q => exact absurd h (h2 y (by rw [h3]; simp))
theorem fdG_lt {A : Mem} {hit : Nat → Option Nat} : ∀ {n y : Nat} {q : Nat × Nat}, fdG A hit n y = some q → q.1 < 30 ∧ ∃ s, gr A (21 + 4 * q.1) 0 = some s ∧ hit s = some q.2 := by
  intro n
  induction n with
  | zero => intro y q h; cases h
  | succ n ih =>
    intro y q h
    by_cases hy : 30 ≤ y
    · rw [fdG_30 hy] at h; cases h
    · cases hs : gr A (21 + 4 * y) 0 with
      | none => rw [fdG_none (by omega) hs] at h; cases h
      | some s =>
        cases hh : hit s with
        | some i =>
          rw [fdG_hit (by omega) hs hh] at h
          cases h
          exact ⟨by omega, s, hs, hh⟩
        | none =>
          rw [fdG_on (by omega) hs hh] at h
          split at h
          · cases h
          · exact ih h
/-- the rule of a slot -/
theorem rul_eq {A B : Mem} {y s : Nat} (g : ShR A B (some s) (30 + y) y) : (gi A s 3 = -1 ∧ gi B 207 (30 + y) = -1) ∨ Fml false 2 y (svC A s) (svR B (30 + y)) 37 (gi A s 3) (gi B 207 (30 + y)) := g.2.2.1.2.1
theorem frl_lp {A B : Mem} (hF : FSC A) (hS : SlR A B) {nm : Int64} : ∀ {n i y F : Nat}, i + n = 30 → n < F → y < 2147483648 → SJ_X1_find_17 F 2 nm (ni y) (ni i) A = some (fdI (fdG A (hitR A) n y), A) := by
  have hC := clo_of hF hS
  intro n
  induction n with
  | zero =>
    intro i y F h1 h2 h3
    obtain ⟨F, rfl⟩ : ∃ g, F = g + 1 := ⟨F - 1, by omega⟩
    rw [SJ_X1_find_17]; dsimp only
    rw [if_pos (show (30 : Int32) ≤ ni i from (ni_le (a := 30) (by omega) (by omega)).mpr (by omega))]; rfl
  | succ n ih =>
    intro i y F h1 h2 h3
    obtain ⟨F, rfl⟩ : ∃ g, F = g + 1 := ⟨F - 1, by omega⟩
    rw [SJ_X1_find_17]; dsimp only
    rw [if_neg (show ¬ (30 : Int32) ≤ ni i from fun e => by have := (ni_le (a := 30) (by omega) (by omega)).mp e; omega), if_neg (ni_n0 h3)]
    by_cases y30 : 30 ≤ y
    · rw [if_pos (show (30 : Int32) ≤ ni y from (ni_le (a := 30) (by omega) (by omega)).mpr y30), fdG_30 y30]; rfl
    · rw [if_neg (show ¬ (30 : Int32) ≤ ni y from fun e => y30 ((ni_le (a := 30) (by omega) (by omega)).mp e)), gdT ((ni_inb (by omega)).mpr (by omega))]
      simp only [show (ni y).toNatClampNeg = y from ni_tn (by omega)]
      cases hs : gr A (21 + 4 * y) 0 with
      | none => rw [if_neg (fun q => q rfl), fdG_none (by omega) hs]; rfl
      | some s =>
        obtain ⟨g1, g2, ⟨g3, g4, g5⟩, -⟩ := hC.2 y (by omega) s hs
        obtain ⟨o1, o2, o3, o4, o5, o6⟩ := g1
        rw [if_pos (by simp), bi_ck o3]
        unfold L_X6_indexOf
        rw [if_neg (fun q => q rfl), bi_fI o3]
        by_cases e : gi A s 3 = -1
        · have hh : hitR A s = none := if_pos e
          rw [if_neg (fun q => q e), bS]; dsimp only
          rw [if_pos rfl, bi_fI o3, show ni i + 1 = ni (i + 1) from ni_add i 1, fdG_on (by omega) hs hh]
          rcases g2 with g2 | ⟨u, u1, u2⟩
          · rw [g2, if_pos (by decide)]
            obtain ⟨F, rfl⟩ : ∃ g, F = g + 1 := ⟨F - 1, by omega⟩
            rw [SJ_X1_find_17]; dsimp only
            rw [if_pos (show (-1 : Int32) < 0 by decide), ite_self]; rfl
          · rw [u2, if_neg (ni_n0 (by omega)), show tn (ni u) = u from ni_tn (by omega)]
            exact ih (by omega) (by omega) (by omega)
        · have hh : hitR A s = some 0 := if_neg e
          rw [if_pos e, bS]; dsimp only
          rw [if_neg (by decide), fdG_hit (by omega) hs hh, show ni y * 8 + 0 = ni (8 * y + 0) by rw [show (8 : Int32) = ni 8 from rfl, show (0 : Int32) = ni 0 from rfl, ni_mul, ni_add, Nat.mul_comm]]; rfl
/-- what the reference does with the rule it has found -/
def rlE (v1 : Int32) (B : Mem) : Option (Nat × Nat) → Option (Int32 × Mem)
  | some q => SJ_X11_lined_81 v1 (ni q.1) B
  | none => some (802, B)
theorem rl_81 {A B : Mem} (hS : SlR A B) {v1 : Int32} {y n : Nat} (hy : y < 30) (h : ∀ s, gr A (21 + 4 * y) 0 = some s → hitR A s = none → fdG A (hitR A) (n + 1) y = none) : SJ_X11_lined_81 v1 (ni y) B = rlE v1 B (fdG A (hitR A) (n + 1) y) := by
  have g := hS y hy
  cases hs : gr A (21 + 4 * y) 0 with
  | none =>
    rw [hs] at g
    have g : gi B 194 (30 + y) = 0 := g
    rw [fdG_none hy hs]
    unfold SJ_X11_lined_81 rlE
    rw [if_neg (ni_n0 (by omega)), show (30 : Int32) + ni y = ni (30 + y) from ni_add 30 y, gdT ((ni_inb (by omega)).mpr (by omega))]
    simp only [show (ni (30 + y)).toNatClampNeg = 30 + y from ni_tn (by omega)]
    rw [if_pos g]
  | some s =>
    rw [hs] at g
    cases hh : hitR A s with
    | some i => rw [fdG_hit hy hs hh]; rfl
    | none =>
      rw [h s hs hh]
      have e3 : gi A s 3 = -1 := Classical.byContradiction fun q => by
        have : hitR A s = some 0 := if_neg q
        rw [hh] at this; cases this
      have e7 : gi B 207 (30 + y) = -1 := by
        rcases rul_eq g with q | ⟨c, r, n', q1, q2, -, -, -, q3, q4⟩
        · exact q.2
        · rw [e3] at q1
          have q3 : c + n' < ln A (s + 1) := q3
          have q5 : ln A (s + 1) ≤ 1024 := g.2.2.1.2.2.2.2.2.2.1
          exact absurd q1.symm (ni_ne1 (by omega))
      unfold SJ_X11_lined_81 rlE
      rw [if_neg (ni_n0 (by omega)), show (30 : Int32) + ni y = ni (30 + y) from ni_add 30 y, gdT ((ni_inb (by omega)).mpr (by omega)), gdT ((ni_inb (by omega)).mpr (by omega))]
      simp only [show (ni (30 + y)).toNatClampNeg = 30 + y from ni_tn (by omega)]
      rw [if_neg (by rw [g.1]; decide), e7, if_neg (by decide)]

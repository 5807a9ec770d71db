-- ===== the rule of a year, in both: the chain =====
theorem rl_25 {A B : Mem} (hS : SlR A B) {v1 : Int32} : ∀ {n i y F : Nat}, i + n = 31 → n < F → y < 30 → SJ_X11_lined_25 F v1 (ni y) (ni i) B = rlE v1 B (fdG A (hitR A) (n + 1) y) := by
  intro n
  induction n with
  | zero =>
    intro i y F h1 h2 hy
    obtain ⟨F, rfl⟩ : ∃ g, F = g + 1 := ⟨F - 1, by omega⟩
    rw [SJ_X11_lined_25]; dsimp only
    rw [if_pos (show (30 : Int32) < ni i from (ni_lt (a := 30) (by omega) (by omega)).mpr (by omega))]
    refine rl_81 hS hy (fun s hs hh => ?_)
    rw [fdG_on hy hs hh]; split <;> rfl
  | succ n ih =>
    intro i y F h1 h2 hy
    obtain ⟨F, rfl⟩ : ∃ g, F = g + 1 := ⟨F - 1, by omega⟩
    have g := hS y hy
    rw [SJ_X11_lined_25]; dsimp only
    rw [if_neg (show ¬ (30 : Int32) < ni i from fun e => by have := (ni_lt (a := 30) (by omega) (by omega)).mp e; omega), if_neg (ni_n0 (by omega)), show (30 : Int32) + ni y = ni (30 + y) from ni_add 30 y, gdT ((ni_inb (by omega)).mpr (by omega)), gdT ((ni_inb (by omega)).mpr (by omega)), gdT ((ni_inb (by omega)).mpr (by omega))]
    simp only [show (ni (30 + y)).toNatClampNeg = 30 + y from ni_tn (by omega)]
    cases hs : gr A (21 + 4 * y) 0 with
    | none =>
      rw [hs] at g
      have g : gi B 194 (30 + y) = 0 := g
      rw [if_pos g]
      exact rl_81 hS hy (fun s hs' _ => by rw [hs] at hs'; cases hs')
    | some s =>
      rw [hs] at g
      rw [if_neg (show ¬ gi B 194 (30 + y) = 0 by rw [g.1]; decide)]
      rcases rul_eq g with ⟨e3, e7⟩ | ⟨c, r, n', q1, q2, -, -, -, q3, q4⟩
      · have hh : hitR A s = none := if_pos e3
        rw [e7, if_neg (by decide), fdG_on hy hs hh, show ni i + 1 = ni (i + 1) from ni_add i 1]
        have eu : gi B 195 (30 + y) = gi A s 0 := g.2.2.1.1.1.symm
        rw [eu]
        obtain ⟨c0, c1, t13, -⟩ := g.2.2.1.2.2.2.2.2.2.2
        rcases t13 with t13 | ⟨u, u1, u2, u3, u4, -⟩
        · have e0 : gi A s 0 = -1 := t13.1
          rw [e0, if_pos (by decide)]
          obtain ⟨F, rfl⟩ : ∃ g, F = g + 1 := ⟨F - 1, by omega⟩
          rw [SJ_X11_lined_25]; dsimp only
          rw [if_pos (show (-1 : Int32) < 0 by decide), ite_self]
          unfold SJ_X11_lined_81
          rw [if_pos (by decide)]; rfl
        · have e0 : gi A s 0 = ni u := u4
          rw [e0, if_neg (ni_n0 (by omega)), show tn (ni u) = u from ni_tn (by omega)]
          exact ih (by omega) (by omega) u1
      · have q2 : gi B 207 (30 + y) = ni r := q2
        have q1 : gi A s 3 = ni c := q1
        have q3 : c + n' < ln A (s + 1) := q3
        have q5 : ln A (s + 1) ≤ 1024 := g.2.2.1.2.2.2.2.2.2.1
        rw [q2, if_pos (show (0 : Int32) ≤ ni r from (ni_le (a := 0) (by omega) (by omega)).mpr (by omega))]
        refine rl_81 hS hy (fun s' hs' hh => ?_)
        rw [hs] at hs'; cases hs'
        unfold hitR at hh
        rw [if_neg (by rw [q1]; exact ni_ne1 (by omega))] at hh; cases hh
theorem lined_rl {A B : Mem} (hS : SlR A B) {v1 : Int32} {y : Nat} (hy : y < 30) : SJ_X11_lined_25 FU v1 (ni y) 0 B = rlE v1 B (fdG A (hitR A) 30 y) := by
  rw [← fdG_32]
  exact rl_25 hS (n := 31) (i := 0) (by omega) (by have : FU = 4000000 := rfl; omega) hy
theorem find_rl {A B : Mem} (hF : FSC A) (hS : SlR A B) {y : Nat} (hy : y < 30) : S_X1_find 2 ((ni y).toInt64 <<< ((40 : Int32).toInt64 &&& 63)) A = some (fdI (fdG A (hitR A) 30 y), A) := by
  have e := packRef (Y := y) (nm := 0) hy (by omega)
  rw [show nl 0 = (0 : Int64) from rfl, Int64.or_zero] at e
  rw [e]
  unfold S_X1_find
  rw [unp_y hy (by omega)]
  exact frl_lp hF hS (i := 0) (by omega) (by have : FU = 4000000 := rfl; omega) (by omega)

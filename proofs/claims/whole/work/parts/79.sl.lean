-- ===== chains: the reference looks once more than the class, which is all the same =====
def fdG (A : Mem) (hit : Nat → Option Nat) : Nat → Nat → Option (Nat × Nat)
  | 0, _ => none
  | n + 1, y => if 30 ≤ y then none else match gr A (21 + 4 * y) 0 with
    | none => none
    | some s => match hit s with
      | some i => some (y, i)
      | none => if gi A s 0 < 0 then none else fdG A hit n (tn (gi A s 0))
section Fg
variable {A : Mem} {hit : Nat → Option Nat}
theorem fdG_s {n y : Nat} : fdG A hit (n + 1) y = if 30 ≤ y then none else match gr A (21 + 4 * y) 0 with
    | none => none
    | some s => match hit s with
      | some i => some (y, i)
      | none => if gi A s 0 < 0 then none else fdG A hit n (tn (gi A s 0)) := rfl
theorem fdG_30 {n y : Nat} (h : 30 ≤ y) : fdG A hit n y = none := by
  cases n with
  | zero => rfl
  | succ n => rw [fdG_s, if_pos h]
theorem fdG_none {n y : Nat} (hy : y < 30) (h : gr A (21 + 4 * y) 0 = none) : fdG A hit (n + 1) y = none := by
  rw [fdG_s, if_neg (by omega), h]
theorem fdG_hit {n y s i : Nat} (hy : y < 30) (h : gr A (21 + 4 * y) 0 = some s) (hh : hit s = some i) : fdG A hit (n + 1) y = some (y, i) := by
  rw [fdG_s, if_neg (by omega), h]; dsimp only; rw [hh]
theorem fdG_on {n y s : Nat} (hy : y < 30) (h : gr A (21 + 4 * y) 0 = some s) (hh : hit s = none) : fdG A hit (n + 1) y = if gi A s 0 < 0 then none else fdG A hit n (tn (gi A s 0)) := by
  rw [fdG_s, if_neg (by omega), h]; dsimp only; rw [hh]
theorem fdG_mono : ∀ {n y : Nat} {q : Nat × Nat}, fdG A hit n y = some q → fdG A hit (n + 1) y = some q := by
  intro n
  induction n with
  | zero => intro y q h; cases h
  | succ n ih =>
    intro y q h
    by_cases hy : 30 ≤ y
    · rw [fdG_30 hy] at h; cases h
    · cases hs : gr A (21 + 4 * y) 0 with
      | none => rw [fdG_none (by omega) hs] at h; cases h
      | some s =>
        cases hh : hit s with
        | some i => rw [fdG_hit (by omega) hs hh] at h ⊢; exact h
        | none =>
          rw [fdG_on (by omega) hs hh] at h ⊢
          split at h
          · cases h
          · rename_i e
            rw [if_neg e]; exact ih h
theorem fdG_stab {m : Nat} (h : ∀ x, fdG A hit (m + 1) x ≠ none → fdG A hit m x ≠ none) : ∀ x, fdG A hit (m + 2) x ≠ none → fdG A hit (m + 1) x ≠ none := by
  intro x hx
  by_cases hy : 30 ≤ x
  · exact absurd (fdG_30 hy) hx
  · cases hs : gr A (21 + 4 * x) 0 with
    | none => exact absurd (fdG_none (by omega) hs) hx
    | some s =>
      cases hh : hit s with
      | some i => rw [fdG_hit (by omega) hs hh]; simp
      | none =>
        rw [fdG_on (by omega) hs hh] at hx ⊢
        split at hx
        · exact absurd rfl hx
        · rename_i e
          rw [if_neg e]; exact h _ hx
theorem fdG_31 {y : Nat} : fdG A hit 31 y = fdG A hit 30 y := by
  have key : ∀ m, (∀ x, fdG A hit (m + 1) x ≠ none → fdG A hit m x ≠ none) ∨ m + 1 ≤ cnt (fun x => (fdG A hit (m + 1) x).isSome) 30 := by
    intro m
    induction m with
    | zero =>
      by_cases z : ∀ x, fdG A hit 1 x ≠ none → fdG A hit 0 x ≠ none
      · exact Or.inl z
      · right
        obtain ⟨x, hx⟩ := Classical.not_forall.mp z
        have h1 : fdG A hit 1 x ≠ none := fun e => hx (fun q => absurd e q)
        have x30 : x < 30 := Classical.byContradiction fun q => h1 (fdG_30 (by omega))
        have := cnt_lt (p := fun _ => false) (q := fun x => (fdG A hit (0 + 1) x).isSome) (n := 30) (j := x) (fun k _ q => by cases q) x30 rfl (Option.isSome_iff_ne_none.mpr h1)
        omega
    | succ m ih =>
      rcases ih with ih | ih
      · exact Or.inl (fdG_stab ih)
      · by_cases z : ∀ x, fdG A hit (m + 1 + 1) x ≠ none → fdG A hit (m + 1) x ≠ none
        · exact Or.inl z
        · right
          obtain ⟨x, hx⟩ := Classical.not_forall.mp z
          have h1 : fdG A hit (m + 1 + 1) x ≠ none := fun e => hx (fun q => absurd e q)
          have h0 : fdG A hit (m + 1) x = none := Classical.byContradiction fun e => hx (fun _ => e)
          have x30 : x < 30 := Classical.byContradiction fun q => h1 (fdG_30 (by omega))
          have := cnt_lt (p := fun x => (fdG A hit (m + 1) x).isSome) (q := fun x => (fdG A hit (m + 1 + 1) x).isSome) (n := 30) (j := x) (fun k _ q => by
            obtain ⟨v, hv⟩ := Option.isSome_iff_exists.mp q
            rw [fdG_mono hv]; rfl) x30 (by rw [h0]; rfl) (Option.isSome_iff_ne_none.mpr h1)
          omega
  have st : ∀ x, fdG A hit 31 x ≠ none → fdG A hit 30 x ≠ none := by
    rcases key 30 with k | k
    · exact k
    · have := cnt_le (p := fun x => (fdG A hit (30 + 1) x).isSome) (n := 30)
      omega
  cases h : fdG A hit 30 y with
  | some q => exact fdG_mono h
  | none => exact Classical.byContradiction fun e => st y e h
end Fg
theorem fdC_G {A : Mem} {t : Nat} {nm : Int64} : ∀ {n y : Nat}, fdC A t nm n y = fdG A (fun s => pos (gl A (s + 3 + 2 * t)) nm (ln A (s + 3 + 2 * t)) 0) n y := by
  intro n
  induction n with
  | zero => intro y; rfl
  | succ n ih =>
    intro y
    rw [fdG_s]
    unfold fdC
    by_cases hy : 30 ≤ y
    · rw [if_pos hy, if_pos hy]
    · rw [if_neg hy, if_neg hy]
      cases gr A (21 + 4 * y) 0 with
      | none => rfl
      | some s =>
        dsimp only
        cases pos (gl A (s + 3 + 2 * t)) nm (ln A (s + 3 + 2 * t)) 0 with
        | some i => rfl
        | none => dsimp only; rw [ih]
theorem fdC_31 {A : Mem} {t y : Nat} {nm : Int64} : fdC A t nm 31 y = fdC A t nm 30 y := by rw [fdC_G, fdC_G]; exact fdG_31
-- ===== the reference's look-ups =====
/-- the classes in both -/
def SlR (A B : Mem) : Prop := ∀ y, y < 30 → ShR A B (gr A (21 + 4 * y) 0) (30 + y) y
section Co
variable {A B : Mem}
theorem co_41 {k6 : Int64 → Int32 → Int32 → Mem → Option (Int32 × Mem)} {nm : Int64} {v5 : Int32} {y n : Nat} (hy : y < 30) (hn : n ≤ 8) (h7 : gi B 197 (30 + y) = ni n) : ∀ {j i F : Nat}, i + j = n → j < F → SJ_X11_constOf_41 k6 F nm (ni y) v5 (ni (30 + y)) (ni i) B = (match pos (fun k => gl B 198 (8 * (30 + y) + k)) nm j i with
    | some w => some (ni (8 * y + w), B)
    | none => k6 nm (gi B 195 (30 + y)) (v5 + 1) B) := by
  intro j
  induction j with
  | zero =>
    intro i F hi hF
    obtain ⟨F, rfl⟩ : ∃ u, F = u + 1 := ⟨F - 1, by omega⟩
    rw [SJ_X11_constOf_41]; dsimp only
    rw [gdT ((ni_inb (by omega)).mpr (by omega)), gdT ((ni_inb (by omega)).mpr (by omega)), ni_tn (by omega), h7, if_pos ((ni_le (by omega) (by omega)).mpr (by omega))]; rfl
  | succ j ih =>
    intro i F hi hF
    obtain ⟨F, rfl⟩ : ∃ u, F = u + 1 := ⟨F - 1, by omega⟩
    have hI : (8 : Int32) * ni (30 + y) + ni i = ni (8 * (30 + y) + i) := by rw [show (8 : Int32) = ni 8 from rfl, ni_mul, ni_add]
    have hJ : (8 : Int32) * ni y + ni i = ni (8 * y + i) := by rw [show (8 : Int32) = ni 8 from rfl, ni_mul, ni_add]
    rw [SJ_X11_constOf_41]; dsimp only
    rw [gdT ((ni_inb (by omega)).mpr (by omega))]
    simp only [show (ni (30 + y)).toNatClampNeg = 30 + y from ni_tn (by omega)]
    rw [h7, if_neg (fun e => by have := (ni_le (by omega) (by omega)).mp e; omega), hI, hJ, gdT ((ni_inb (by omega)).mpr (by omega)), ni_tn (by omega), pos_succ]
    by_cases e : gl B 198 (8 * (30 + y) + i) = nm
    · rw [if_neg (fun q => q e), if_pos e]
    · rw [if_pos e, if_neg e, show ni i + 1 = ni (i + 1) from ni_add i 1]
      exact ih (by omega) (by omega)
theorem co_6 (hS : SlR A B) {nm : Int64} : ∀ {n i y F : Nat}, i + n = 31 → n < F → y < 30 → SJ_X11_constOf_6 F nm (ni y) (ni i) B = some (fdI (fdC A 0 nm n y), B) := by
  intro n
  induction n with
  | zero =>
    intro i y F hi hF hy
    obtain ⟨F, rfl⟩ : ∃ u, F = u + 1 := ⟨F - 1, by omega⟩
    rw [SJ_X11_constOf_6]; dsimp only
    rw [if_pos (show (30 : Int32) < ni i from (ni_lt (a := 30) (by omega) (by omega)).mpr (by omega))]; rfl
  | succ n ih =>
    intro i y F hi hF hy
    obtain ⟨F, rfl⟩ : ∃ u, F = u + 1 := ⟨F - 1, by omega⟩
    rw [SJ_X11_constOf_6]; dsimp only
    rw [if_neg (show ¬ (30 : Int32) < ni i from fun e => by have := (ni_lt (a := 30) (by omega) (by omega)).mp e; omega), if_neg (ni_n0 (by omega)), show (30 : Int32) + ni y = ni (30 + y) from ni_add 30 y, gdT ((ni_inb (by omega)).mpr (by omega)), ni_tn (by omega)]
    have g := hS y hy
    unfold fdC
    rw [if_neg (show ¬ 30 ≤ y by omega)]
    cases hs : gr A (21 + 4 * y) 0 with
    | none =>
      rw [hs] at g
      have g : gi B 194 (30 + y) = 0 := g
      rw [g, if_pos rfl]; rfl
    | some s =>
      rw [hs] at g
      obtain ⟨g1, g2, g3, g4, ⟨n', n1, n2⟩, g6⟩ := g
      obtain ⟨⟨t1, t2⟩, t3, ⟨t4, t5, t6⟩, ⟨t7, t8, t9⟩, t10, t11, t12, c0, c1, t13, t14, t15, t16⟩ := g3
      have en : ln A (s + 3) = n' := by
        have : ln A (s + 3) = tn (gi B 197 (30 + y)) := t4
        rw [n1] at this
        exact this.trans (ni_tn (by omega))
      have e41 := co_41 (k6 := SJ_X11_constOf_6 F) (nm := nm) (v5 := ni i) hy n2 n1 (j := n') (i := 0) (F := FU) (by omega) (by have : FU = 4000000 := rfl; omega)
      have e41 : SJ_X11_constOf_41 (SJ_X11_constOf_6 F) FU nm (ni y) (ni i) (ni (30 + y)) 0 B = _ := e41
      rw [g1, if_neg (show ¬ (1 : Int32) = 0 by decide), e41]
      have ep : pos (fun k => gl B 198 (8 * (30 + y) + k)) nm n' 0 = pos (gl A (s + 3 + 2 * 0)) nm (ln A (s + 3 + 2 * 0)) 0 := by
        rw [show s + 3 + 2 * 0 = s + 3 by omega, en]
        refine pos_cg (fun k h1 h2 => ?_)
        exact (t6 k (by show k < ln A (s + 3); omega)).1.symm
      rw [ep]
      dsimp only
      cases hp : pos (gl A (s + 3 + 2 * 0)) nm (ln A (s + 3 + 2 * 0)) 0 with
      | some w => rfl
      | none =>
        dsimp only
        have eu : gi B 195 (30 + y) = gi A s 0 := t1.symm
        rw [eu, show ni i + 1 = ni (i + 1) from ni_add i 1]
        rcases t13 with t13 | ⟨u, u1, u2, u3, u4, -⟩
        · have e0 : gi A s 0 = -1 := t13.1
          rw [e0, if_pos (by decide)]
          obtain ⟨F, rfl⟩ : ∃ u, F = u + 1 := ⟨F - 1, by omega⟩
          rw [SJ_X11_constOf_6]; dsimp only
          rw [if_pos (show (-1 : Int32) < 0 by decide), ite_self]; rfl
        · have e0 : gi A s 0 = ni u := u4
          rw [e0, if_neg (ni_n0 (by omega)), show tn (ni u) = u from ni_tn (by omega)]
          exact ih (by omega) (by omega) u1
theorem constOf_eq (hS : SlR A B) {nm : Int64} {y : Nat} (hy : y < 30) : S_X11_constOf (ni y) nm B = some (fdI (fdC A 0 nm 30 y), B) := by
  unfold S_X11_constOf
  rw [← fdC_31]
  exact co_6 hS (i := 0) (by omega) (by have : FU = 4000000 := rfl; omega) hy
end Co

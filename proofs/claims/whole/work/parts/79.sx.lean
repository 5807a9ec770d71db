-- ===== tables; starts =====
def fdJ (r : Option (Nat × Nat)) : Int32 := match r with
  | some q => ni (6 * q.1 + q.2)
  | none => -1
section Tbo
variable {A B : Mem}
theorem tb_41 {k6 : Int64 → Int32 → Int32 → Mem → Option (Int32 × Mem)} {nm : Int64} {v5 : Int32} {y n : Nat} (hy : y < 30) (hn : n ≤ 6) (h7 : gi B 200 (30 + y) = ni n) : ∀ {j i F : Nat}, i + j = n → j < F → SJ_X11_tableOf_41 k6 F nm (ni y) v5 (ni (30 + y)) (ni i) B = (match pos (fun k => gl B 201 (6 * (30 + y) + k)) nm j i with
    | some w => some (ni (6 * y + w), B)
    | none => k6 nm (gi B 195 (30 + y)) (v5 + 1) B) := by
  intro j
  induction j with
  | zero =>
    intro i F hi hF
    obtain ⟨F, rfl⟩ : ∃ u, F = u + 1 := ⟨F - 1, by omega⟩
    rw [SJ_X11_tableOf_41]; dsimp only
    rw [gdT ((ni_inb (by omega)).mpr (by omega)), gdT ((ni_inb (by omega)).mpr (by omega)), ni_tn (by omega), h7, if_pos ((ni_le (by omega) (by omega)).mpr (by omega))]; rfl
  | succ j ih =>
    intro i F hi hF
    obtain ⟨F, rfl⟩ : ∃ u, F = u + 1 := ⟨F - 1, by omega⟩
    have hI : (6 : Int32) * ni (30 + y) + ni i = ni (6 * (30 + y) + i) := by rw [show (6 : Int32) = ni 6 from rfl, ni_mul, ni_add]
    have hJ : (6 : Int32) * ni y + ni i = ni (6 * y + i) := by rw [show (6 : Int32) = ni 6 from rfl, ni_mul, ni_add]
    rw [SJ_X11_tableOf_41]; dsimp only
    rw [gdT ((ni_inb (by omega)).mpr (by omega))]
    simp only [show (ni (30 + y)).toNatClampNeg = 30 + y from ni_tn (by omega)]
    rw [h7, if_neg (fun e => by have := (ni_le (by omega) (by omega)).mp e; omega), hI, hJ, gdT ((ni_inb (by omega)).mpr (by omega)), ni_tn (by omega), pos_succ]
    by_cases e : gl B 201 (6 * (30 + y) + i) = nm
    · rw [if_neg (fun q => q e), if_pos e]
    · rw [if_pos e, if_neg e, show ni i + 1 = ni (i + 1) from ni_add i 1]
      exact ih (by omega) (by omega)
theorem tb_6 (hS : SlR A B) {nm : Int64} : ∀ {n i y F : Nat}, i + n = 31 → n < F → y < 30 → SJ_X11_tableOf_6 F nm (ni y) (ni i) B = some (fdJ (fdC A 1 nm n y), B) := by
  intro n
  induction n with
  | zero =>
    intro i y F hi hF hy
    obtain ⟨F, rfl⟩ : ∃ u, F = u + 1 := ⟨F - 1, by omega⟩
    rw [SJ_X11_tableOf_6]; dsimp only
    rw [if_pos (show (30 : Int32) < ni i from (ni_lt (a := 30) (by omega) (by omega)).mpr (by omega))]; rfl
  | succ n ih =>
    intro i y F hi hF hy
    obtain ⟨F, rfl⟩ : ∃ u, F = u + 1 := ⟨F - 1, by omega⟩
    rw [SJ_X11_tableOf_6]; dsimp only
    rw [if_neg (show ¬ (30 : Int32) < ni i from fun e => by have := (ni_lt (a := 30) (by omega) (by omega)).mp e; omega), if_neg (ni_n0 (by omega)), show (30 : Int32) + ni y = ni (30 + y) from ni_add 30 y, gdT ((ni_inb (by omega)).mpr (by omega)), ni_tn (by omega)]
    have g := hS y hy
    unfold fdC
    rw [if_neg (show ¬ 30 ≤ y by omega)]
    cases hs : gr A (21 + 4 * y) 0 with
    | none =>
      rw [hs] at g
      have g : gi B 194 (30 + y) = 0 := g
      rw [g, if_pos rfl]; rfl
    | some s =>
      rw [hs] at g
      obtain ⟨g1, g2, g3, g4, g6, ⟨n', n1, n2⟩⟩ := g
      obtain ⟨⟨t1, t2⟩, t3, ⟨t4, t5, t6⟩, ⟨t7, t8, t9⟩, t10, t11, t12, c0, c1, t13, t14, t15, t16⟩ := g3
      have en : ln A (s + 5) = n' := by
        have : ln A (s + 5) = tn (gi B 200 (30 + y)) := t7
        rw [n1] at this
        exact this.trans (ni_tn (by omega))
      have e42 := tb_41 (k6 := SJ_X11_tableOf_6 F) (nm := nm) (v5 := ni i) hy n2 n1 (j := n') (i := 0) (F := FU) (by omega) (by have : FU = 4000000 := rfl; omega)
      have e42 : SJ_X11_tableOf_41 (SJ_X11_tableOf_6 F) FU nm (ni y) (ni i) (ni (30 + y)) 0 B = _ := e42
      rw [g1, if_neg (show ¬ (1 : Int32) = 0 by decide), e42]
      have ep : pos (fun k => gl B 201 (6 * (30 + y) + k)) nm n' 0 = pos (gl A (s + 3 + 2 * 1)) nm (ln A (s + 3 + 2 * 1)) 0 := by
        rw [show s + 3 + 2 * 1 = s + 5 by omega, en]
        refine pos_cg (fun k h1 h2 => ?_)
        exact (t9 k (by show k < ln A (s + 5); omega)).1.symm
      rw [ep]
      dsimp only
      cases hp : pos (gl A (s + 3 + 2 * 1)) nm (ln A (s + 3 + 2 * 1)) 0 with
      | some w => rfl
      | none =>
        dsimp only
        have eu : gi B 195 (30 + y) = gi A s 0 := t1.symm
        rw [eu, show ni i + 1 = ni (i + 1) from ni_add i 1]
        rcases t13 with t13 | ⟨u, u1, u2, u3, u4, -⟩
        · have e0 : gi A s 0 = -1 := t13.1
          rw [e0, if_pos (by decide)]
          obtain ⟨F, rfl⟩ : ∃ u, F = u + 1 := ⟨F - 1, by omega⟩
          rw [SJ_X11_tableOf_6]; dsimp only
          rw [if_pos (show (-1 : Int32) < 0 by decide), ite_self]; rfl
        · have e0 : gi A s 0 = ni u := u4
          rw [e0, if_neg (ni_n0 (by omega)), show tn (ni u) = u from ni_tn (by omega)]
          exact ih (by omega) (by omega) u1
theorem tableOf_eq (hS : SlR A B) {nm : Int64} {y : Nat} (hy : y < 30) : S_X11_tableOf (ni y) nm B = some (fdJ (fdC A 1 nm 30 y), B) := by
  unfold S_X11_tableOf
  rw [← fdC_31]
  exact tb_6 hS (i := 0) (by omega) (by have : FU = 4000000 := rfl; omega) hy
end Tbo
theorem id6 {y k : Nat} (hy : y < 30) (hk : k < 6) : ni (6 * y + k) / 6 = ni y ∧ ni (6 * y + k) - ni y * 6 = ni k := by
  have : ∀ (y : Fin 30) (k : Fin 6), ni (6 * y.val + k.val) / 6 = ni y.val ∧ ni (6 * y.val + k.val) - ni y.val * 6 = ni k.val := by decide +kernel
  exact this ⟨y, hy⟩ ⟨k, hk⟩
/-- a class that is there, started or starting -/
def DmO (A : Mem) (Y : Nat) : Prop := gr A (21 + 4 * Y) 0 ≠ none ∧ ¬ gi A (21 + 4 * Y) 1 = 3 ∧ ¬ gi A (21 + 4 * Y) 1 = 1
theorem dm_0 {A : Mem} {Y : Nat} (hY : Y < 30) (h : DmO A Y) : S_X3_demand (ni Y) A = some (0, A) := by
  unfold S_X3_demand
  rw [if_neg (ni_n0 (by omega)), if_neg (show ¬ (30 : Int32) ≤ ni Y from fun e => by have := (ni_le (a := 30) (by omega) (by omega)).mp e; omega), gdT ((ni_inb (by omega)).mpr hY), gdT ((ni_inb (by omega)).mpr hY)]
  simp only [show (ni Y).toNatClampNeg = Y from ni_tn (by omega)]
  rw [if_pos h.1, if_pos h.2.1, if_neg h.2.2]
theorem DmO.fr {A A' B B' : Mem} {Y L d sp : Nat} (h : DmO A Y) (hY : Y < 30) (m : Mi L A B) (m' : Mi L A' B') (g : FA d sp A A') (p : Ph B B') : DmO A' Y := by
  have e : gi A' (21 + 4 * Y) 1 = gi A (21 + 4 * Y) 1 := by
    rw [(m'.2.2.2.2.2.1 Y hY).1.1, (m.2.2.2.2.2.1 Y hY).1.1]
    rcases p Y hY with p | p
    · exact p.1
    · exact absurd ((m.2.2.2.2.2.1 Y hY).1.1.trans p.1) h.2.2
  unfold DmO
  rw [e, g.2.2.1 (21 + 4 * Y) 0 (by omega)]
  exact h
/-- a year is needed, in both -/
def NdS (L f : Nat) (rS : Int32 → Mem → Option (Int32 × Mem)) : Prop := ∀ D sp A B Y, Y < 30 → Mi L A B → Tp A B D sp → sp ≤ 40 * D → D + nst B ≤ 31 → nst B < f →
  (∃ x, ¬ x = -1 ∧ S_X3_demand (ni Y) A = some (x, A) ∧ rS (ni Y) B = some (x, B) ∧ (x = 0 → DmO A Y)) ∨
  (∃ A1 x B' t A', S_X3_demand (ni Y) A = some (-1, A1) ∧ rS (ni Y) B = some (x, B') ∧ ¬ x = -1 ∧ FB sp B B' ∧ Ph B B' ∧ gi B' 181 63 = ni sp ∧ t + 1 + 14000 * nst B' ≤ 14000 * nst B ∧ Mi L A' B' ∧ gi A' 144 2 = ni D ∧ FA D sp A A' ∧
    ((x = 0 ∧ DmO A' Y ∧ Go A1 t A' ∧ gi A' 144 4 = ni sp) ∨ (¬ x = 0 ∧ ∃ j, j + D ≤ 31 ∧ Th A1 t x j A')))
section Dm
variable {o : Nat → Int32} {a : Nat → Int64} {w : Nat → Int32} {v : Nat → Int64} {z : Nat → Int32} {nn : Nat} {L f d y s pc b q qr sp : Nat} {st : Int32} {A B A1 B1 : Mem} {rS : Int32 → Mem → Option (Int32 × Mem)}
theorem FrAt.fa {A' : Mem} (h : FrAt A d y s pc b q st) (g : FA (d + 1) sp A A') (hd : d < 31) : FrAt A' d y s pc b q st := by
  obtain ⟨f0, f1, f2, f3, f4, f5⟩ := h
  have fi : ∀ j, gi A' (146 + d) j = gi A (146 + d) j := fun j => g.2.2.2.1 (146 + d) j (by omega)
  exact ⟨(fi 0).trans f0, (g.2.2.1 (146 + d) 1 (by omega)).trans f1, (fi 2).trans f2, (fi 3).trans f3, (fi 4).trans f4, (fi 5).trans f5⟩
/-- a piece of code that needs a year -/
theorem dem1 {Y : Nat} (hN : NdS L f rS) (hC : Cf o a w v z nn L d y s pc b q st sp A B) (hs : sp ≤ 40 * (d + 1)) (hn : nst B < f) (hY : Y < 30) (hadv : ∀ x A1, S_X3_demand (ni Y) A = some (x, A1) → ¬ x = 0 → S_X3_advance d A = some (x, A1)) :
    (∃ t A' B', rS (ni Y) B = some (0, B') ∧ DmO A' Y ∧ Go A t A' ∧ t + 14000 * nst B' ≤ 14000 * nst B ∧ Cf o a w v z nn L d y s pc b q st sp A' B' ∧ FA (d + 1) sp A A' ∧ FB sp B B' ∧ Ph B B') ∨
    (∃ t x j A' B', (¬ x = 0 ∧ ¬ x = -1) ∧ rS (ni Y) B = some (x, B') ∧ Th A t x j A' ∧ j + d + 1 ≤ 31 ∧ t + 14000 * nst B' ≤ 1 + 14000 * nst B ∧ Mi L A' B' ∧ FrAt A' d y s pc b q st ∧ gi A' 144 2 = ni (d + 1) ∧ gi B' 181 63 = ni sp ∧ FA (d + 1) sp A A' ∧ FB sp B B' ∧ Ph B B') := by
  have hd := hC.d31
  rcases hN (d + 1) sp A B Y hY hC.1 hC.2.2.2.1 hs hC.2.2.2.2 hn with ⟨x, x1, d1, r1, ok⟩ | ⟨A1, x, B', t, A', d1, r1, x1, fb, ph, e63, ht, mi, dep, fa, ⟨x0, dmo, go, top⟩ | ⟨x0, j, hj, th⟩⟩
  · by_cases x0 : x = 0
    · subst x0
      exact Or.inl ⟨0, A, B, r1, ok rfl, Go.rf, by omega, hC, FrV.rf, FrV.rf, Ph.rf⟩
    · exact Or.inr ⟨1, x, 0, A, B, ⟨x0, x1⟩, r1, go_x hC.2.2.2.1.1 hd (hadv x A d1 x0) x0 x1, by omega, by omega, hC.1, hC.2.2.1, hC.2.2.2.1.1, hC.2.2.2.1.2.2.1, FrV.rf, FrV.rf, Ph.rf⟩
  · subst x0
    have g1 := go_m hC.2.2.2.1.1 hd (hadv _ A1 d1 (by decide))
    refine Or.inl ⟨1 + t, A', B', r1, dmo, g1.tr go, by omega, ⟨mi, rw_q hC.2.1 fa.q fb.q, hC.2.2.1.fa fa hd, ⟨dep, top, e63, fun k hk => ?_⟩, ?_⟩, fa, fb, ph⟩
    · rw [fa.2.2.2.2 177 k (by omega), fb.2.2.2.2 219 k (by omega)]; exact hC.2.2.2.1.2.2.2 k hk
    · have := ph.nst; have := hC.2.2.2.2; omega
  · have g1 := go_m hC.2.2.2.1.1 hd (hadv _ A1 d1 (by decide))
    exact Or.inr ⟨1 + t, x, j, A', B', ⟨x0, x1⟩, r1, g1.th th, by omega, by omega, mi, hC.2.2.1.fa fa hd, dep, e63, fa, fb, ph⟩
end Dm

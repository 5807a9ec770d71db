-- needs: 74.sclsb 75.num 76.rel 77.cong 78.sim 79.qa 79.qb 79.ra 79.rb 79.rc 79.rd 79.re 79.rf 79.rg 79.rh 79.ri 79.rj
-- ===== parts of a sheet: what they leave as it was =====
def FrC2 (A A' : Mem) : Prop := KG A A' ∧ (∀ a, a < 7 ∨ 17 < a → gi A' a = gi A a) ∧ (∀ a, a < 10 ∨ 13 < a → gl A' a = gl A a) ∧ gi A' 7 3 = gi A 7 3
def FrB2 (B B' : Mem) : Prop := KG B B' ∧ (∀ a, a < 181 ∨ (181 < a ∧ a < 184) ∨ 193 < a → gi B' a = gi B a) ∧ (∀ a, a < 181 ∨ (181 < a ∧ a < 184) ∨ 193 < a → gl B' a = gl B a) ∧ (∀ j, j = 1 ∨ j = 4 ∨ j = 12 ∨ 35 < j → gi B' 181 j = gi B 181 j) ∧ ∀ j, j ≠ 8 → gl B' 181 j = gl B 181 j
theorem FrC2.rf {A : Mem} : FrC2 A A := ⟨KG.rf, fun _ _ => rfl, fun _ _ => rfl, rfl⟩
theorem FrC2.trans {A B C : Mem} (h : FrC2 A B) (g : FrC2 B C) : FrC2 A C := ⟨h.1.trans g.1, fun a a1 => (g.2.1 a a1).trans (h.2.1 a a1), fun a a1 => (g.2.2.1 a a1).trans (h.2.2.1 a a1), g.2.2.2.trans h.2.2.2⟩
theorem FrB2.rf {A : Mem} : FrB2 A A := ⟨KG.rf, fun _ _ => rfl, fun _ _ => rfl, fun _ _ => rfl, fun _ _ => rfl⟩
theorem FrB2.trans {A B C : Mem} (h : FrB2 A B) (g : FrB2 B C) : FrB2 A C := ⟨h.1.trans g.1, fun a a1 => (g.2.1 a a1).trans (h.2.1 a a1), fun a a1 => (g.2.2.1 a a1).trans (h.2.2.1 a a1), fun j j1 => (g.2.2.2.1 j j1).trans (h.2.2.2.1 j j1), fun j j1 => (g.2.2.2.2 j j1).trans (h.2.2.2.2 j j1)⟩
theorem FrC.to2 {A A' : Mem} (h : FrC A A') : FrC2 A A' := ⟨h.1, fun a a1 => h.2.1 a (by omega) (by omega) (by omega), fun a a1 => h.2.2.1 a (by omega), h.2.2.2.1 3 (by omega) (by omega) (by omega) (by omega)⟩
theorem FrB.to2 {A A' : Mem} (h : FrB A A') : FrB2 A A' := ⟨h.1, fun a a1 => h.2.1 a (by omega) (by omega) (by omega), fun a a1 => h.2.2.1 a (by omega) (by omega), fun j j1 => h.2.2.2.1 j (by omega), h.2.2.2.2⟩
theorem frC2_si {A : Mem} {a j : Nat} {x : Int32} (h : 7 ≤ a ∧ a ≤ 17) (h2 : ¬ (a = 7 ∧ j = 3)) : FrC2 A (si A a j x) := ⟨kg_si, fun b b1 => gi_ne (by omega), fun _ _ => rfl, by rw [gi_si, if_neg (by omega)]⟩
theorem frC2_sl {A : Mem} {a j : Nat} {x : Int64} (h : 10 ≤ a ∧ a ≤ 13) : FrC2 A (sl A a j x) := ⟨kg_sl, fun b b1 => rfl, fun b b1 => gl_ne (by omega), rfl⟩
theorem frB2_f {B : Mem} {j : Nat} {x : Int32} (h : j ≠ 1 ∧ j ≠ 4 ∧ j ≠ 12 ∧ j ≤ 35) : FrB2 B (si B 181 j x) := ⟨kg_si, fun b b1 => gi_ne (by omega), fun _ _ => rfl, fun i hi => si_ff' (by omega), fun _ _ => rfl⟩
theorem frB2_a {B : Mem} {a j : Nat} {x : Int32} (h : 184 ≤ a ∧ a ≤ 193) : FrB2 B (si B a j x) := ⟨kg_si, fun b b1 => gi_ne (by omega), fun _ _ => rfl, fun i hi => by rw [gi_ne (by omega)], fun _ _ => rfl⟩
theorem frB2_l {B : Mem} {a j : Nat} {x : Int64} (h : 184 ≤ a ∧ a ≤ 193) : FrB2 B (sl B a j x) := ⟨kg_sl, fun b b1 => rfl, fun b b1 => gl_ne (by omega), fun i hi => rfl, fun i hi => by rw [gl_ne (by omega)]⟩
-- ===== the class alone, once it has stopped =====
section Bc
variable (by_ : Nat → Nat) (n T : Nat)
def BC (A : Mem) : Prop := FSC A ∧ (gi A 1 5 = ni (T + 1) ∧ T ≤ n ∧ n ≤ 900) ∧ ¬ gi A 7 5 = 0 ∧ (∃ i, i ≤ T ∧ gi A 7 2 = ni i) ∧ (∃ c, c ≤ 1024 ∧ gi A 8 6 = ni c) ∧ (∃ k, k ≤ 8 ∧ gi A 8 9 = ni k) ∧ (∃ t, t ≤ 6 ∧ gi A 8 12 = ni t) ∧ ∃ y, y ≤ 40 ∧ gi A 8 16 = ni y
/-- goes on without changing what was told -/
def BS (A A' : Mem) : Prop := FrC2 A A' ∧ (gi A' 7 5 = gi A 7 5 ∧ gi A' 7 6 = gi A 7 6 ∧ gi A' 7 7 = gi A 7 7) ∧ BC n T A'
end Bc
theorem BS.tr {n T : Nat} {A B C : Mem} (h : BS n T A B) (g : BS n T B C) : BS n T A C := ⟨h.1.trans g.1, ⟨g.2.1.1.trans h.2.1.1, g.2.1.2.1.trans h.2.1.2.1, g.2.1.2.2.trans h.2.1.2.2⟩, g.2.2⟩
section Bd
variable {n T : Nat} {A : Mem}
theorem BC.rf (h : BC n T A) : BS n T A A := ⟨FrC2.rf, ⟨rfl, rfl, rfl⟩, h⟩
theorem BC.content (h : BC n T A) : ∃ x, S_X4_content A = some (x, A) := by
  obtain ⟨hf, ⟨h1, h2, h3⟩, h5, ⟨i, i1, i2⟩, _⟩ := h
  unfold S_X4_content
  rw [i2, h1, if_neg (fun e => by have := (ni_le (by omega) (by omega)).mp e; omega), gdT ((ni_inb (by omega)).mpr (by omega))]
  exact ⟨_, rfl⟩
theorem BC.place (h : BC n T A) : ∃ x, S_X4_place A = some (x, A) := by
  obtain ⟨hf, ⟨h1, h2, h3⟩, h5, ⟨i, i1, i2⟩, _⟩ := h
  unfold S_X4_place
  rw [i2, h1, if_neg (fun e => by have := (ni_le (by omega) (by omega)).mp e; omega), gdT ((ni_inb (by omega)).mpr (by omega))]
  exact ⟨_, rfl⟩
theorem BC.reference (h : BC n T A) {rS : Int32 → Mem → Option (Unit × Mem)} {x y : Int32} : S_X4_readReference rS x y A = some ((), A) := by
  obtain ⟨q, hq⟩ := h.content
  unfold S_X4_readReference
  rw [hq, bS]; dsimp only
  rw [bk_take h.2.2.1 (by decide), bS]; dsimp only
  rw [if_neg (by simp)]
theorem BC.operand (h : BC n T A) {rS : Int32 → Mem → Option (Unit × Mem)} {x : Int32} : S_X4_readOperand rS x A = some ((), A) := by
  unfold S_X4_readOperand
  rw [bk_minus h.2.2.1, bS]; dsimp only
  rw [bk_kind h.2.2.1, bS]; dsimp only
  rw [if_pos (by decide), if_pos (by decide), if_pos (by decide)]
  unfold SJ_X4_readOperand_92 SJ_X4_readOperand_101
  rw [h.reference, bS]; dsimp only
  rw [if_pos rfl]
theorem BC.product (h : BC n T A) {rS : Int32 → Mem → Option (Unit × Mem)} {x : Int32} : S_X4_readProduct rS x A = some ((), A) := by
  unfold S_X4_readProduct
  rw [h.operand, bS]; dsimp only
  rw [bk_kind h.2.2.1, bS]; dsimp only
  rw [show L_X4_factor 4 A = some (-1, A) from rfl, bS]; dsimp only
  rw [show FU = 3999999 + 1 from rfl, bk_prodlp h.2.2.1]
theorem BC.sum (h : BC n T A) {rS : Int32 → Mem → Option (Unit × Mem)} {x : Int32} : S_X4_readSum rS x A = some ((), A) := by
  unfold S_X4_readSum
  rw [h.product, bS]; dsimp only
  rw [show FU = 3999999 + 1 from rfl, bk_sumlp h.2.2.1]
theorem BC.choice (h : BC n T A) {F : Nat} {x : Int32} : S_X4_readChoice (F + 1) x A = some ((), A) := by
  rw [S_X4_readChoice]
  unfold SB_X4_readChoice
  by_cases hx : x ≤ 12
  · rw [if_pos hx, h.sum, bS]; dsimp only
    rw [bk_kind h.2.2.1, bS]; dsimp only
    rw [show L_X4_comparison 4 A = some (-1, A) from rfl, bS]; dsimp only
    rw [if_pos rfl, bk_ch54 h.2.2.1]
  · rw [if_neg hx, bk_reject h.2.2.1, bS]
theorem BC.constSum (h : BC n T A) : S_X4_readConstantSum A = some ((), A) := by
  obtain ⟨q, hq⟩ := h.content
  have e : S_X4_readConstantOperand A = some ((), A) := by
    unfold S_X4_readConstantOperand
    rw [bk_minus h.2.2.1, bS]; dsimp only
    rw [bk_kind h.2.2.1, bS]; dsimp only
    rw [if_pos (by decide)]
    unfold S_X4_readConstName SJ_X4_readConstantOperand_39
    rw [hq, bS]; dsimp only
    rw [bk_take h.2.2.1 (by decide), bS]; dsimp only
    rw [if_pos rfl, bS, if_pos rfl]
  unfold S_X4_readConstantSum
  have e0 : SJ_X4_readConstantSum_4 FU (-1) 0 A = _ := cs4 (F := 3999999)
  rw [e0, if_neg (by decide), e, bS]; dsimp only
  rw [show FU = 3999999 + 1 from rfl, bk_cs17 h.2.2.1]
  unfold SJ_X4_readConstantSum_64
  rw [if_pos rfl, bk_cs79 h.2.2.1]
theorem BC.newName (h : BC n T A) : ∃ x, S_X4_takeNewName A = some (x, A) := by
  obtain ⟨q, hq⟩ := h.content
  obtain ⟨p, hp⟩ := h.place
  unfold S_X4_takeNewName
  rw [hp, bS]; dsimp only
  rw [hq, bS]; dsimp only
  rw [bk_take h.2.2.1 (by decide), bS]; dsimp only
  rw [if_pos rfl]; exact ⟨_, rfl⟩
theorem BC.number (h : BC n T A) {u v : Int32} : ∃ x, S_X4_takeNumber u v A = some (x, A) := by
  obtain ⟨q, hq⟩ := h.content
  obtain ⟨p, hp⟩ := h.place
  unfold S_X4_takeNumber
  rw [hp, bS]; dsimp only
  rw [hq, bS]; dsimp only
  rw [bk_take h.2.2.1 (by decide), bS]; dsimp only
  rw [if_pos rfl]; exact ⟨_, rfl⟩
theorem BC.steps (h : BC n T A) {rS : Int32 → Mem → Option (Unit × Mem)} {x y : Int32} {F : Nat} : SJ_X4_readSteps_2 rS (F + 1) x y A = some ((), A) := by
  rw [SJ_X4_readSteps_2]; dsimp only
  rw [bk_kind h.2.2.1, bS]; dsimp only
  rw [if_neg (show ¬ (4 : Int32) = 125 by decide), if_pos h.2.2.1, ite_self]
-- what it may still write
theorem BC.wi (h : BC n T A) {a j : Nat} {x : Int32} (ha : 7 ≤ a ∧ a ≤ 17) (h7 : a = 7 → j = 4) (h8 : a = 8 → j ≠ 6 ∧ j ≠ 9 ∧ j ≠ 12 ∧ j ≠ 16) : BS n T A (si A a j x) := by
  obtain ⟨hf, ⟨h1, h2, h3⟩, h5, h6, h7', h8', h9, h10⟩ := h
  have e7 : ∀ q, q ≠ 4 → gi (si A a j x) 7 q = gi A 7 q := fun q hq => by rw [gi_si, if_neg (fun e => hq (e.2.trans (h7 e.1.symm)))]
  have e8 : ∀ q, q = 6 ∨ q = 9 ∨ q = 12 ∨ q = 16 → gi (si A a j x) 8 q = gi A 8 q := fun q hq => by
    rw [gi_si, if_neg (fun e => by have := h8 e.1.symm; omega)]
  refine ⟨frC2_si ha (fun e => by have := h7 e.1; omega), ⟨e7 5 (by omega), e7 6 (by omega), e7 7 (by omega)⟩, hf.kg kg_si, ⟨?_, h2, h3⟩, ?_, ?_, ?_, ?_, ?_, ?_⟩
  · rw [gi_ne (by omega)]; exact h1
  · rw [e7 5 (by omega)]; exact h5
  · rw [e7 2 (by omega)]; exact h6
  · rw [e8 6 (by omega)]; exact h7'
  · rw [e8 9 (by omega)]; exact h8'
  · rw [e8 12 (by omega)]; exact h9
  · rw [e8 16 (by omega)]; exact h10
theorem BC.wl (h : BC n T A) {a j : Nat} {x : Int64} (ha : 10 ≤ a ∧ a ≤ 13) : BS n T A (sl A a j x) := ⟨frC2_sl ha, ⟨rfl, rfl, rfl⟩, h.1.kg kg_sl, h.2⟩
/-- a counter of the draft goes to another value -/
theorem BC.cnt (h : BC n T A) {j q : Nat} (hj : (j = 6 ∧ q ≤ 1024) ∨ (j = 9 ∧ q ≤ 8) ∨ (j = 12 ∧ q ≤ 6) ∨ (j = 16 ∧ q ≤ 40)) : BS n T A (si A 8 j (ni q)) := by
  obtain ⟨hf, ⟨h1, h2, h3⟩, h5, h6, h7', h8', h9, h10⟩ := h
  refine ⟨frC2_si (by omega) (by omega), ⟨by rw [gi_ne (by omega)], by rw [gi_ne (by omega)], by rw [gi_ne (by omega)]⟩, hf.kg kg_si, ⟨?_, h2, h3⟩, ?_, ?_, ?_, ?_, ?_, ?_⟩
  · rw [gi_ne (by omega)]; exact h1
  · rw [gi_ne (by omega)]; exact h5
  · rw [gi_ne (by omega)]; exact h6
  · by_cases e : j = 6
    · subst e; exact ⟨q, by omega, si_eq⟩
    · rw [si_ff' (fun z => e z.symm)]; exact h7'
  · by_cases e : j = 9
    · subst e; exact ⟨q, by omega, si_eq⟩
    · rw [si_ff' (fun z => e z.symm)]; exact h8'
  · by_cases e : j = 12
    · subst e; exact ⟨q, by omega, si_eq⟩
    · rw [si_ff' (fun z => e z.symm)]; exact h9
  · by_cases e : j = 16
    · subst e; exact ⟨q, by omega, si_eq⟩
    · rw [si_ff' (fun z => e z.symm)]; exact h10
theorem BC.emit (h : BC n T A) {o : Int32} {a : Int64} : ∃ x A', S_X0_emit o a A = some (x, A') ∧ BS n T A A' := by
  obtain ⟨c, c1, c2⟩ := h.2.2.2.2.1
  by_cases e : c = 1024
  · subst e; exact ⟨_, _, emC_full c2, h.rf⟩
  · refine ⟨_, _, emC_eq c2 (by omega), ?_⟩
    have a1 := h.wi (a := 9) (j := c) (x := o) (by omega) (by omega) (by omega)
    have a2 := a1.2.2.wl (a := 10) (j := c) (x := a) (by omega)
    exact (a1.tr a2).tr (a2.2.2.cnt (j := 6) (q := c + 1) (Or.inl ⟨rfl, by omega⟩))
theorem BC.land (h : BC n T A) {j : Int32} : ∃ A', S_X0_landHere j A = some ((), A') ∧ BS n T A A' := by
  obtain ⟨c, c1, c2⟩ := h.2.2.2.2.1
  unfold S_X0_landHere
  by_cases e : j < 0
  · rw [if_pos e]; exact ⟨_, rfl, h.rf⟩
  · rw [if_neg e]
    by_cases e2 : gi A 8 6 ≤ j
    · rw [if_pos e2]; exact ⟨_, rfl, h.rf⟩
    · rw [if_neg e2]
      rcases i_cases j with q | ⟨q, q1, rfl⟩
      · exact absurd q e
      · have : q < c := by
          refine Nat.not_le.mp fun z => e2 ?_
          rw [c2]; exact (ni_le (by omega) (by omega)).mpr z
        rw [gdT ((ni_inb (by omega)).mpr (by omega))]
        exact ⟨_, rfl, h.wl (by omega)⟩
theorem BC.addConst (h : BC n T A) {x : Int64} : ∃ A', S_X0_addConst x A = some ((), A') ∧ BS n T A A' := by
  obtain ⟨k, k1, k2⟩ := h.2.2.2.2.2.1
  unfold S_X0_addConst
  by_cases e : k = 8
  · rw [k2, e, if_pos (show (8 : Int32) ≤ ni 8 by decide)]; exact ⟨_, rfl, h.rf⟩
  · have e1 : gi (sl A 11 k x) 8 9 = ni k := k2
    have e2 : gi (si (sl A 11 k x) 12 k (gi (sl A 11 k x) 8 6)) 8 9 = ni k := by rw [gi_ne (by omega)]; exact e1
    rw [k2, if_neg (show ¬ (8 : Int32) ≤ ni k from fun q => by have := (ni_le (a := 8) (by omega) (by omega)).mp q; omega), gdT ((ni_inb (by omega)).mpr (by omega)), ni_tn (by omega), e1, gdT ((ni_inb (by omega)).mpr (by omega)), ni_tn (by omega), e2, show ni k + 1 = ni (k + 1) from ni_add k 1]
    have a1 := h.wl (a := 11) (j := k) (x := x) (by omega)
    have a2 := a1.2.2.wi (a := 12) (j := k) (x := gi (sl A 11 k x) 8 6) (by omega) (by omega) (by omega)
    exact ⟨_, rfl, (a1.tr a2).tr (a2.2.2.cnt (j := 9) (q := k + 1) (Or.inr (Or.inl ⟨rfl, by omega⟩)))⟩
theorem BC.addTable (h : BC n T A) {x y : Int64} : ∃ A', S_X0_addTable x y A = some ((), A') ∧ BS n T A A' := by
  obtain ⟨k, k1, k2⟩ := h.2.2.2.2.2.2.1
  unfold S_X0_addTable
  by_cases e : k = 6
  · rw [k2, e, if_pos (show (6 : Int32) ≤ ni 6 by decide)]; exact ⟨_, rfl, h.rf⟩
  · have e1 : gi (sl A 13 k x) 8 12 = ni k := k2
    have e2 : gi (si (sl A 13 k x) 14 k y.toInt32) 8 12 = ni k := by rw [gi_ne (by omega)]; exact e1
    rw [k2, if_neg (show ¬ (6 : Int32) ≤ ni k from fun q => by have := (ni_le (a := 6) (by omega) (by omega)).mp q; omega), gdT ((ni_inb (by omega)).mpr (by omega)), ni_tn (by omega), e1, gdT ((ni_inb (by omega)).mpr (by omega)), ni_tn (by omega), e2, show ni k + 1 = ni (k + 1) from ni_add k 1]
    have a1 := h.wl (a := 13) (j := k) (x := x) (by omega)
    have a2 := a1.2.2.wi (a := 14) (j := k) (x := y.toInt32) (by omega) (by omega) (by omega)
    exact ⟨_, rfl, (a1.tr a2).tr (a2.2.2.cnt (j := 12) (q := k + 1) (Or.inr (Or.inr (Or.inl ⟨rfl, by omega⟩))))⟩
theorem BC.openTry (h : BC n T A) : ∃ x A', S_X0_openTry A = some (x, A') ∧ BS n T A A' := by
  obtain ⟨k, k1, k2⟩ := h.2.2.2.2.2.2.2
  unfold S_X0_openTry
  by_cases e : k = 40
  · rw [k2, e, if_neg (show ¬ ni 40 < (40 : Int32) by decide)]; exact ⟨_, _, rfl, h.rf⟩
  · have e1 : gi (si A 15 k (gi A 8 6)) 8 16 = ni k := by rw [gi_ne (by omega)]; exact k2
    rw [k2, if_pos (show ni k < (40 : Int32) from (ni_lt (b := 40) (by omega) (by omega)).mpr (by omega)), gdT ((ni_inb (by omega)).mpr (by omega)), ni_tn (by omega), e1, show ni k + 1 = ni (k + 1) from ni_add k 1]
    have a1 := h.wi (a := 15) (j := k) (x := gi A 8 6) (by omega) (by omega) (by omega)
    exact ⟨_, _, rfl, a1.tr (a1.2.2.cnt (j := 16) (q := k + 1) (Or.inr (Or.inr (Or.inr ⟨rfl, by omega⟩))))⟩
theorem BC.closeTry (h : BC n T A) {x : Int32} : ∃ A', S_X0_closeTry x A = some ((), A') ∧ BS n T A A' := by
  obtain ⟨k, k1, k2⟩ := h.2.2.2.2.2.2.2
  unfold S_X0_closeTry
  by_cases e : x < 0
  · rw [if_pos e]; exact ⟨_, rfl, h.rf⟩
  · rw [if_neg e]
    by_cases e2 : gi A 8 16 ≤ x
    · rw [if_pos e2]; exact ⟨_, rfl, h.rf⟩
    · rw [if_neg e2]
      rcases i_cases x with q | ⟨q, q1, rfl⟩
      · exact absurd q e
      · have : q < k := by
          refine Nat.not_le.mp fun z => e2 ?_
          rw [k2]; exact (ni_le (by omega) (by omega)).mpr z
        rw [gdT ((ni_inb (by omega)).mpr (by omega)), gdT ((ni_inb (by omega)).mpr (by omega))]
        have a1 := h.wi (a := 16) (j := (ni q).toNatClampNeg) (x := gi A 8 6) (by omega) (by omega) (by omega)
        exact ⟨_, rfl, a1.tr (a1.2.2.wi (a := 17) (by omega) (by omega) (by omega))⟩
end Bd
-- ===== the reference alone, once it has stopped =====
def WB (e : Nat) (B : Mem) : Prop := FSR B ∧ ¬ gi B 181 11 = 0 ∧ (∃ r, r ≤ 1200 + e ∧ gi B 181 27 = ni r) ∧ (∃ k, k ≤ 910 + e ∧ gi B 181 15 = ni k) ∧ (∃ t, t ≤ 910 + e ∧ gi B 181 18 = ni t) ∧ ∃ m, m ≤ 305 + e ∧ gi B 181 21 = ni m
def WS (e : Nat) (B B' : Mem) : Prop := FrB2 B B' ∧ (gi B' 181 11 = gi B 181 11 ∧ gi B' 181 2 = gi B 181 2 ∧ gi B' 181 3 = gi B 181 3) ∧ WB e B'
theorem WS.tr {e f : Nat} {A B C : Mem} (h : WS e A B) (g : WS f B C) : WS f A C := ⟨h.1.trans g.1, ⟨g.2.1.1.trans h.2.1.1, g.2.1.2.1.trans h.2.1.2.1, g.2.1.2.2.trans h.2.1.2.2⟩, g.2.2⟩
section Wb
variable {e : Nat} {B : Mem}
theorem WB.mono (h : WB e B) {f : Nat} (hf : e ≤ f) : WB f B := by
  obtain ⟨h1, h2, ⟨r, r1, r2⟩, ⟨k, k1, k2⟩, ⟨t, t1, t2⟩, ⟨m, m1, m2⟩⟩ := h
  exact ⟨h1, h2, ⟨r, by omega, r2⟩, ⟨k, by omega, k2⟩, ⟨t, by omega, t2⟩, ⟨m, by omega, m2⟩⟩
theorem WB.rf (h : WB e B) : WS e B B := ⟨FrB2.rf, ⟨rfl, rfl, rfl⟩, h⟩
theorem WB.a (h : WB e B) {a j : Nat} {x : Int32} (ha : 184 ≤ a ∧ a ≤ 193) : WS e B (si B a j x) := by
  obtain ⟨h1, h2, h3, h4, h5, h6⟩ := h
  refine ⟨frB2_a ha, ⟨by rw [gi_ne (by omega)], by rw [gi_ne (by omega)], by rw [gi_ne (by omega)]⟩, h1.kg kg_si, ?_, ?_, ?_, ?_, ?_⟩
  · rw [gi_ne (by omega)]; exact h2
  · rw [gi_ne (by omega)]; exact h3
  · rw [gi_ne (by omega)]; exact h4
  · rw [gi_ne (by omega)]; exact h5
  · rw [gi_ne (by omega)]; exact h6
theorem WB.l (h : WB e B) {a j : Nat} {x : Int64} (ha : 184 ≤ a ∧ a ≤ 193) : WS e B (sl B a j x) := ⟨frB2_l ha, ⟨rfl, rfl, rfl⟩, h.1.kg kg_sl, h.2⟩
theorem WB.f (h : WB e B) {j : Nat} {x : Int32} (hj : j = 14 ∨ j = 22 ∨ j = 26 ∨ j = 31 ∨ j = 32 ∨ j = 33 ∨ j = 34 ∨ j = 35) : WS e B (si B 181 j x) := by
  obtain ⟨h1, h2, h3, h4, h5, h6⟩ := h
  refine ⟨frB2_f (by omega), ⟨si_ff' (by omega), si_ff' (by omega), si_ff' (by omega)⟩, h1.kg kg_si, ?_, ?_, ?_, ?_, ?_⟩
  · rw [si_ff' (by omega)]; exact h2
  · rw [si_ff' (by omega)]; exact h3
  · rw [si_ff' (by omega)]; exact h4
  · rw [si_ff' (by omega)]; exact h5
  · rw [si_ff' (by omega)]; exact h6
theorem WB.cnt (h : WB e B) {j q : Nat} (hj : (j = 27 ∧ q ≤ 1200 + (e + 1)) ∨ (j = 15 ∧ q ≤ 910 + (e + 1)) ∨ (j = 18 ∧ q ≤ 910 + (e + 1)) ∨ (j = 21 ∧ q ≤ 305 + (e + 1))) : WS (e + 1) B (si B 181 j (ni q)) := by
  obtain ⟨h1, h2, ⟨r, r1, r2⟩, ⟨k, k1, k2⟩, ⟨t, t1, t2⟩, ⟨m, m1, m2⟩⟩ := h
  refine ⟨frB2_f (by omega), ⟨si_ff' (by omega), si_ff' (by omega), si_ff' (by omega)⟩, h1.kg kg_si, ?_, ?_, ?_, ?_, ?_⟩
  · rw [si_ff' (by omega)]; exact h2
  · by_cases z : j = 27
    · subst z; exact ⟨q, by omega, si_eq⟩
    · exact ⟨r, by omega, by rw [si_ff' (fun y => z y.symm)]; exact r2⟩
  · by_cases z : j = 15
    · subst z; exact ⟨q, by omega, si_eq⟩
    · exact ⟨k, by omega, by rw [si_ff' (fun y => z y.symm)]; exact k2⟩
  · by_cases z : j = 18
    · subst z; exact ⟨q, by omega, si_eq⟩
    · exact ⟨t, by omega, by rw [si_ff' (fun y => z y.symm)]; exact t2⟩
  · by_cases z : j = 21
    · subst z; exact ⟨q, by omega, si_eq⟩
    · exact ⟨m, by omega, by rw [si_ff' (fun y => z y.symm)]; exact m2⟩
theorem WB.emit (h : WB e B) (he : e < 90) {w z : Int32} {v : Int64} : ∃ B', S_X11_emit w v z B = some ((), B') ∧ WS (e + 1) B B' := by
  obtain ⟨r, r1, r2⟩ := h.2.2.1
  refine ⟨_, emR_eq r2 (by omega), ?_⟩
  have a1 := h.a (a := 191) (j := r) (x := w) (by omega)
  have a2 := a1.2.2.l (a := 192) (j := r) (x := v) (by omega)
  have a3 := a2.2.2.a (a := 193) (j := r) (x := z) (by omega)
  exact ((a1.tr a2).tr a3).tr (a3.2.2.cnt (j := 27) (q := r + 1) (Or.inl ⟨rfl, by omega⟩))
theorem mark_eq {B : Mem} {m : Nat} {x y z : Int32} (h : gi B 181 21 = ni m) (hm : m < 400) : S_X11_mark x y z B = some ((), si (si (si (si B 188 m x) 189 m y) 190 m z) 181 21 (ni (m + 1))) := by
  unfold S_X11_mark
  have e1 : gi (si B 188 m x) 181 21 = ni m := by rw [gi_ne (by omega)]; exact h
  have e2 : gi (si (si B 188 m x) 189 m y) 181 21 = ni m := by rw [gi_ne (by omega)]; exact e1
  have e3 : gi (si (si (si B 188 m x) 189 m y) 190 m z) 181 21 = ni m := by rw [gi_ne (by omega)]; exact e2
  rw [h, gdT ((ni_inb (by omega)).mpr hm), ni_tn (by omega), e1, gdT ((ni_inb (by omega)).mpr hm), ni_tn (by omega), e2, gdT ((ni_inb (by omega)).mpr hm), ni_tn (by omega), e3, show ni m + 1 = ni (m + 1) from ni_add m 1]
theorem WB.mark (h : WB e B) (he : e < 90) {x y z : Int32} : ∃ B', S_X11_mark x y z B = some ((), B') ∧ WS (e + 1) B B' := by
  obtain ⟨m, m1, m2⟩ := h.2.2.2.2.2
  refine ⟨_, mark_eq m2 (by omega), ?_⟩
  have a1 := h.a (a := 188) (j := m) (x := x) (by omega)
  have a2 := a1.2.2.a (a := 189) (j := m) (x := y) (by omega)
  have a3 := a2.2.2.a (a := 190) (j := m) (x := z) (by omega)
  exact ((a1.tr a2).tr a3).tr (a3.2.2.cnt (j := 21) (q := m + 1) (Or.inr (Or.inr (Or.inr ⟨rfl, by omega⟩))))
end Wb
/-- both have stopped, with the same fault -/
def Br (n T e : Nat) (A B : Mem) : Prop := BC n T A ∧ WB e B ∧ gi A 7 6 = 1 ∧ gi B 181 2 = 1 ∧ gi A 7 7 = gi B 181 3
theorem Br.go {n T e f : Nat} {A B A' B' : Mem} (h : Br n T e A B) (a : BS n T A A') (b : WS f B B') : Br n T f A' B' := ⟨a.2.2, b.2.2, a.2.1.2.1.trans h.2.2.1, b.2.1.2.1.trans h.2.2.2.1, a.2.1.2.2.trans (h.2.2.2.2.trans b.2.1.2.2.symm)⟩

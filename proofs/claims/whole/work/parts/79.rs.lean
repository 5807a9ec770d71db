-- ===== try =====
theorem mk_ok {B : Mem} {m : Nat} {x y z : Int32} (h : gi B 181 21 = ni m) (hm : m < 400) : ∃ B', S_X11_mark x y z B = some ((), B') ∧ FrB2 B B' ∧ (∀ j, j ≠ 21 → gi B' 181 j = gi B 181 j) ∧ gi B' 181 21 = ni (m + 1) ∧ (∀ a, a ≠ 181 → a ≠ 188 → a ≠ 189 → a ≠ 190 → gi B' a = gi B a) ∧ gl B' = gl B ∧ (gi B' 188 m = x ∧ gi B' 189 m = y ∧ gi B' 190 m = z) ∧ (∀ j, j ≠ m → gi B' 188 j = gi B 188 j ∧ gi B' 189 j = gi B 189 j ∧ gi B' 190 j = gi B 190 j) ∧
    (∀ by_ n T own wd i c r A, R by_ n T own wd i c r A B → R by_ n T own wd i c r A B') ∧ (∀ c r y A, KO c r m y A B A B') ∧ QB B B' := by
  refine ⟨_, mark_eq h hm, ?_, ?_, si_eq, ?_, rfl, ⟨?_, ?_, ?_⟩, ?_, ?_, ?_, ?_⟩
  · exact (((frB2_a (by omega)).trans (frB2_a (by omega))).trans (frB2_a (by omega))).trans (frB2_f (by omega))
  · intro j hj; rw [si_ff' hj, gi_ne (by omega), gi_ne (by omega), gi_ne (by omega)]
  · intro a a1 a2 a3 a4; rw [gi_ne a1, gi_ne a4, gi_ne a3, gi_ne a2]
  · rw [gi_ne (by omega), gi_ne (by omega), gi_ne (by omega), si_eq]
  · rw [gi_ne (by omega), gi_ne (by omega), si_eq]
  · rw [gi_ne (by omega), si_eq]
  · intro j hj
    refine ⟨?_, ?_, ?_⟩
    · rw [gi_ne (by omega), gi_ne (by omega), gi_ne (by omega), si_ff' hj]
    · rw [gi_ne (by omega), gi_ne (by omega), si_ff' hj, gi_ne (by omega)]
    · rw [gi_ne (by omega), si_ff' hj, gi_ne (by omega), gi_ne (by omega)]
  · intro by_ n T own wd i c r A hR
    exact rB_si (rB_si (rB_si (rB_si hR (by omega)) (by omega)) (by omega)) (by omega)
  · intro c r y A
    exact (((koB_si (by omega)).trans (koB_si (by omega)) (Nat.le_refl _) (Nat.le_refl _) (Nat.le_refl _) (Nat.le_refl _)).trans (koB_si (by omega)) (Nat.le_refl _) (Nat.le_refl _) (Nat.le_refl _) (Nat.le_refl _)).trans (koB_si (by omega)) (Nat.le_refl _) (Nat.le_refl _) (Nat.le_refl _) (Nat.le_refl _)
  · refine ⟨fun j hj => ?_, rfl, ?_, rfl, ?_⟩
    · rw [si_ff' (by omega), gi_ne (by omega), gi_ne (by omega), gi_ne (by omega)]
    · rw [gi_ne (by omega), gi_ne (by omega), gi_ne (by omega), gi_ne (by omega)]
    · rw [gi_ne (by omega), gi_ne (by omega), gi_ne (by omega), gi_ne (by omega)]
theorem op_ok {A : Mem} {y c : Nat} (h : gi A 8 16 = ni y) (hy : y ≤ 40) (hc : gi A 8 6 = ni c) : ∃ x y1 A', S_X0_openTry A = some (x, A') ∧ (y ≤ y1 ∧ y1 ≤ 40) ∧ gi A' 8 16 = ni y1 ∧ ((y < 40 ∧ y1 = y + 1 ∧ x = ni y ∧ gi A' 15 y = ni c) ∨ (y = 40 ∧ x = -1)) ∧ FrC2 A A' ∧ (∀ a, a ≠ 8 → a ≠ 15 → gi A' a = gi A a) ∧ gl A' = gl A ∧ (∀ j, j ≠ 16 → gi A' 8 j = gi A 8 j) ∧
    (∀ by_ n T own wd i c r B, R by_ n T own wd i c r A B → R by_ n T own wd i c r A' B) ∧ (∀ c r m B, KO c r m y A B A' B) ∧ QA A A' := by
  unfold S_X0_openTry
  by_cases e : y = 40
  · rw [h, e, if_neg (show ¬ ni 40 < (40 : Int32) by decide)]
    exact ⟨-1, 40, A, rfl, ⟨Nat.le_refl _, Nat.le_refl _⟩, by rw [h, e], Or.inr ⟨rfl, rfl⟩, FrC2.rf, fun _ _ _ => rfl, rfl, fun _ _ => rfl, fun _ _ _ _ _ _ _ _ _ q => q, fun _ _ _ _ => KO.rf, QA.rf⟩
  · have e1 : gi (si A 15 y (gi A 8 6)) 8 16 = ni y := by rw [gi_ne (by omega)]; exact h
    have e2 : gi (si (si A 15 y (ni c)) 8 16 (ni (y + 1))) 8 16 = ni (y + 1) := si_eq
    rw [h, if_pos (show ni y < (40 : Int32) from (ni_lt (b := 40) (by omega) (by omega)).mpr (by omega)), gdT ((ni_inb (by omega)).mpr (by omega)), ni_tn (by omega), e1, show ni y + 1 = ni (y + 1) from ni_add y 1, hc, e2, show ni (y + 1) - 1 = ni y from (ni_sub (a := y + 1) (b := 1) (by omega)).trans (by rw [show y + 1 - 1 = y by omega])]
    refine ⟨ni y, y + 1, _, rfl, ⟨by omega, by omega⟩, e2, Or.inl ⟨by omega, rfl, rfl, ?_⟩, (frC2_si (by omega) (by omega)).trans (frC2_si (by omega) (by omega)), ?_, rfl, ?_, ?_, ?_, ?_⟩
    · rw [gi_ne (by omega), si_eq]
    · intro a a1 a2; rw [gi_ne a1, gi_ne a2]
    · intro j hj; rw [si_ff' hj, gi_ne (by omega)]
    · intro by_ n T own wd i c r B hR
      exact rC_si (rC_si hR (by omega)) (by omega)
    · intro c r m B
      exact (koC_si (by omega)).trans (koC_si (by omega)) (Nat.le_refl _) (Nat.le_refl _) (Nat.le_refl _) (Nat.le_refl _)
    · refine ⟨fun j hj => ?_, ?_, rfl, ?_, rfl, ?_⟩
      · rw [si_ff' (by omega), gi_ne (by omega)]
      · rw [gi_ne (by omega), gi_ne (by omega)]
      · rw [gi_ne (by omega), gi_ne (by omega)]
      · rw [gi_ne (by omega), gi_ne (by omega)]
theorem cl_ok {A : Mem} {y y5 c : Nat} {x : Int32} (h : gi A 8 16 = ni y5) (hy : y5 ≤ 40) (hc : gi A 8 6 = ni c) (hx : x = -1 ∨ (x = ni y ∧ y < y5)) : ∃ A', S_X0_closeTry x A = some ((), A') ∧ ((x = ni y ∧ y < y5) → gi A' 16 y = ni c ∧ gi A' 17 y = ni c) ∧ FrC2 A A' ∧ (∀ a, a ≠ 16 → a ≠ 17 → gi A' a = gi A a) ∧ gl A' = gl A ∧ (∀ j, j ≠ y → gi A' 16 j = gi A 16 j ∧ gi A' 17 j = gi A 17 j) ∧
    (∀ by_ n T own wd i c r B, R by_ n T own wd i c r A B → R by_ n T own wd i c r A' B) ∧ (∀ c r m B, KO c r m y A B A' B) ∧ QA A A' := by
  unfold S_X0_closeTry
  rcases hx with rfl | ⟨rfl, hx⟩
  · rw [if_pos (by decide)]
    exact ⟨A, rfl, fun q => absurd q.1 (m1_ne (by omega)), FrC2.rf, fun _ _ _ => rfl, rfl, fun _ _ => ⟨rfl, rfl⟩, fun _ _ _ _ _ _ _ _ _ q => q, fun _ _ _ _ => KO.rf, QA.rf⟩
  · have e1 : gi (si A 16 y (ni c)) 8 6 = ni c := by rw [gi_ne (by omega)]; exact hc
    rw [if_neg (ni_n0 (by omega)), h, if_neg (fun q => by have := (ni_le (by omega) (by omega)).mp q; omega), gdT ((ni_inb (by omega)).mpr (by omega)), gdT ((ni_inb (by omega)).mpr (by omega)), ni_tn (by omega), hc, e1]
    refine ⟨_, rfl, fun _ => ⟨?_, si_eq⟩, (frC2_si (by omega) (by omega)).trans (frC2_si (by omega) (by omega)), ?_, rfl, ?_, ?_, ?_, ?_⟩
    · rw [gi_ne (by omega), si_eq]
    · intro a a1 a2; rw [gi_ne a2, gi_ne a1]
    · intro j hj
      refine ⟨?_, ?_⟩
      · rw [gi_ne (by omega), si_ff' hj]
      · rw [si_ff' hj, gi_ne (by omega)]
    · intro by_ n T own wd i c r B hR
      exact rC_si (rC_si hR (by omega)) (by omega)
    · intro c r m B
      exact (koC_si (by omega)).trans (koC_si (by omega)) (Nat.le_refl _) (Nat.le_refl _) (Nat.le_refl _) (Nat.le_refl _)
    · refine ⟨fun j hj => ?_, ?_, rfl, ?_, rfl, ?_⟩
      · rw [gi_ne (by omega), gi_ne (by omega)]
      · rw [gi_ne (by omega), gi_ne (by omega)]
      · rw [gi_ne (by omega), gi_ne (by omega)]
      · rw [gi_ne (by omega), gi_ne (by omega)]
-- the class's try, piece by piece
def tzG (j : Int32) (M : Mem) : Option (Unit × Mem) := (S_X0_landHere j M).bind fun w11 => some ((), w11.2)
def tzF (rS : Int32 → Mem → Option (Unit × Mem)) (v1 j : Int32) (M : Mem) : Option (Unit × Mem) := (S_X4_readSteps rS v1 M).bind fun w9 => (S_X4_take (125 : Int32) w9.2).bind fun w10 => tzG j w10.2
def tzE (rS : Int32 → Mem → Option (Unit × Mem)) (v1 j : Int32) (M : Mem) : Option (Unit × Mem) := (S_X4_take (123 : Int32) M).bind fun w8 => tzF rS v1 j w8.2
def tzD (rS : Int32 → Mem → Option (Unit × Mem)) (v1 j : Int32) (M : Mem) : Option (Unit × Mem) := (S_X4_take (306 : Int32) M).bind fun w7 => tzE rS v1 j w7.2
def tzC (rS : Int32 → Mem → Option (Unit × Mem)) (v1 x : Int32) (M : Mem) : Option (Unit × Mem) := (S_X0_emit (14 : Int32) (0 : Int64) M).bind fun w5 => (S_X0_closeTry x w5.2).bind fun w6 => tzD rS v1 w5.1 w6.2
def tzB (rS : Int32 → Mem → Option (Unit × Mem)) (v1 x : Int32) (M : Mem) : Option (Unit × Mem) := (S_X4_readSteps rS v1 M).bind fun w3 => (S_X4_take (125 : Int32) w3.2).bind fun w4 => tzC rS v1 x w4.2
def tzA (rS : Int32 → Mem → Option (Unit × Mem)) (v1 : Int32) (M : Mem) : Option (Unit × Mem) := (S_X0_openTry M).bind fun w2 => tzB rS v1 w2.1 w2.2
theorem tz_eq {rS : Int32 → Mem → Option (Unit × Mem)} {v1 : Int32} {M : Mem} : S_X4_readTry rS v1 M = (S_X4_take (123 : Int32) (si M 7 2 ((gi M 7 2) + (1 : Int32)))).bind fun w1 => tzA rS v1 w1.2 := rfl
section Bt
variable {n T : Nat} {A : Mem} {rS : Int32 → Mem → Option (Unit × Mem)} {v1 : Int32}
theorem BC.ytG (h : BC n T A) {j : Int32} : ∃ A', tzG j A = some ((), A') ∧ BS n T A A' := by
  obtain ⟨A1, a1, a2⟩ := h.land (j := j)
  unfold tzG
  rw [a1, bS]
  exact ⟨A1, rfl, a2⟩
theorem BC.ytF (h : BC n T A) {j : Int32} : ∃ A', tzF rS v1 j A = some ((), A') ∧ BS n T A A' := by
  unfold tzF S_X4_readSteps
  rw [show FU = 3999999 + 1 from rfl, h.steps, bS]; dsimp only
  rw [bk_take h.2.2.1 (by decide), bS]
  exact h.ytG
theorem BC.ytE (h : BC n T A) {j : Int32} : ∃ A', tzE rS v1 j A = some ((), A') ∧ BS n T A A' := by
  unfold tzE
  rw [bk_take h.2.2.1 (by decide), bS]
  exact h.ytF
theorem BC.ytD (h : BC n T A) {j : Int32} : ∃ A', tzD rS v1 j A = some ((), A') ∧ BS n T A A' := by
  unfold tzD
  rw [bk_take h.2.2.1 (by decide), bS]
  exact h.ytE
theorem BC.ytC (h : BC n T A) {x : Int32} : ∃ A', tzC rS v1 x A = some ((), A') ∧ BS n T A A' := by
  unfold tzC
  obtain ⟨j, A1, a1, a2⟩ := h.emit (o := 14) (a := 0)
  obtain ⟨A2, b1, b2⟩ := a2.2.2.closeTry (x := x)
  rw [a1, bS]; dsimp only
  rw [b1, bS]; dsimp only
  obtain ⟨A3, c1, c2⟩ := b2.2.2.ytD (rS := rS) (v1 := v1) (j := j)
  exact ⟨A3, c1, (a2.tr b2).tr c2⟩
theorem BC.ytB (h : BC n T A) {x : Int32} : ∃ A', tzB rS v1 x A = some ((), A') ∧ BS n T A A' := by
  unfold tzB S_X4_readSteps
  rw [show FU = 3999999 + 1 from rfl, h.steps, bS]; dsimp only
  rw [bk_take h.2.2.1 (by decide), bS]
  exact h.ytC
theorem BC.ytA (h : BC n T A) : ∃ A', tzA rS v1 A = some ((), A') ∧ BS n T A A' := by
  unfold tzA
  obtain ⟨x, A1, a1, a2⟩ := h.openTry
  rw [a1, bS]; dsimp only
  obtain ⟨A2, b1, b2⟩ := a2.2.2.ytB (rS := rS) (v1 := v1) (x := x)
  exact ⟨A2, b1, a2.tr b2⟩
end Bt
-- the reference's try
def trC (x z : Int32) (M : Mem) : Option (Unit × Mem) := gd (inb x 400) (gd (inb z 400) ((S_X11_mark (4 : Int32) (0 : Int32) (0 : Int32) (si (si (si M 181 32 ((gi M 181 32) - (1 : Int32))) 190 x.toNatClampNeg (z + (1 : Int32))) 190 z.toNatClampNeg (gi (si (si M 181 32 ((gi M 181 32) - (1 : Int32))) 190 x.toNatClampNeg (z + (1 : Int32))) 181 21))).bind fun w10 => some ((), w10.2)))
def trB (rS : Mem → Option (Unit × Mem)) (x : Int32) (M : Mem) : Option (Unit × Mem) :=
  (S_X11_isWord (7 : Int32) M).bind fun w6 =>
  if ¬ w6.1 = 0 then
  ((S_X11_advance w6.2).bind fun w7 =>
  (S_X11_mark (3 : Int32) (0 : Int32) (0 : Int32) w7.2).bind fun w8 =>
  (S_X11_block rS w8.2).bind fun w9 => trC x (gi w7.2 181 21) w9.2)
  else
  ((S_X11_stops w6.2).bind fun w11 =>
  some ((), w11.2))
def tryR (rS : Mem → Option (Unit × Mem)) (M : Mem) : Option (Unit × Mem) :=
  (S_X11_advance (si M 181 32 ((gi M 181 32) + (1 : Int32)))).bind fun w3 =>
  (S_X11_mark (2 : Int32) (0 : Int32) (0 : Int32) w3.2).bind fun w4 =>
  (S_X11_block rS w4.2).bind fun w5 => trB rS (gi w3.2 181 21) w5.2
theorem step40_eq {rS : Mem → Option (Unit × Mem)} {M : Mem} : SJ_X11_step_40 rS M = (S_X11_isWord (4 : Int32) (si M 181 22 ((gi M 181 22) + (1 : Int32)))).bind fun w1 =>
  if w1.1 = 0 then
  ((S_X11_isWord (5 : Int32) w1.2).bind fun w2 =>
  if w2.1 = 0 then tryR rS w2.2
  else
  ((S_X11_check w2.2).bind fun w12 =>
  some ((), w12.2)))
  else
  ((S_X11_table w1.2).bind fun w13 =>
  some ((), w13.2)) := rfl
theorem WB.rtC {e : Nat} {B : Mem} (h : WB e B) (he : e < 80) {x z : Nat} (hx : x < 400) (hz : z < 400) : ∃ B', trC (ni x) (ni z) B = some ((), B') ∧ WS (e + 1) B B' := by
  unfold trC
  rw [gdT ((ni_inb (by omega)).mpr hx), gdT ((ni_inb (by omega)).mpr hz)]
  have a1 := h.f (j := 32) (x := gi B 181 32 - 1) (by omega)
  have a2 := a1.2.2.a (a := 190) (j := (ni x).toNatClampNeg) (x := ni z + 1) (by omega)
  have a3 := a2.2.2.a (a := 190) (j := (ni z).toNatClampNeg) (x := gi (si (si B 181 32 (gi B 181 32 - 1)) 190 (ni x).toNatClampNeg (ni z + 1)) 181 21) (by omega)
  obtain ⟨B4, b1, b2⟩ := a3.2.2.mark (by omega) (x := 4) (y := 0) (z := 0)
  rw [b1, bS]
  exact ⟨B4, rfl, ((a1.tr a2).tr a3).tr b2⟩
theorem tc_ok {B : Mem} {m q p v : Nat} (h : gi B 181 21 = ni p) (h32 : gi B 181 32 = ni (v + 1)) (hm : m < q) (hq : q < p) (hp : p < 400) : ∃ B', trC (ni m) (ni q) B = some ((), B') ∧ FrB2 B B' ∧ gi B' 181 32 = ni v ∧ (∀ j, j ≠ 21 → j ≠ 32 → gi B' 181 j = gi B 181 j) ∧ gi B' 181 21 = ni (p + 1) ∧ (∀ a, a ≠ 181 → a ≠ 188 → a ≠ 189 → a ≠ 190 → gi B' a = gi B a) ∧ gl B' = gl B ∧ (gi B' 190 m = ni (q + 1) ∧ gi B' 190 q = ni p ∧ gi B' 188 p = 4) ∧ (∀ j, j ≠ p → gi B' 188 j = gi B 188 j ∧ gi B' 189 j = gi B 189 j) ∧ (∀ j, j ≠ p → j ≠ m → j ≠ q → gi B' 190 j = gi B 190 j) ∧
    (∀ by_ n T own wd i c r A, R by_ n T own wd i c r A B → R by_ n T own wd i c r A B') ∧ QB B B' := by
  unfold trC
  have e1 : gi (si (si B 181 32 (gi B 181 32 - 1)) 190 m (ni q + 1)) 181 21 = ni p := by rw [gi_ne (by omega), si_ff' (by omega)]; exact h
  have e2 : gi (si (si (si B 181 32 (gi B 181 32 - 1)) 190 m (ni q + 1)) 190 q (ni p)) 181 21 = ni p := by rw [gi_ne (by omega)]; exact e1
  obtain ⟨B4, b1, b2, b3, b4, b5, b6, b7, b8, b9, b10, b11⟩ := mk_ok (x := 4) (y := 0) (z := 0) e2 hp
  rw [gdT ((ni_inb (by omega)).mpr (by omega)), gdT ((ni_inb (by omega)).mpr (by omega)), ni_tn (by omega), ni_tn (by omega), e1, b1, bS]
  refine ⟨B4, rfl, ?_, ?_, ?_, b4, ?_, b6, ⟨?_, ?_, b7.1⟩, ?_, ?_, ?_, ?_⟩
  · exact (((frB2_f (by omega)).trans (frB2_a (by omega))).trans (frB2_a (by omega))).trans b2
  · rw [b3 32 (by omega), gi_ne (by omega), gi_ne (by omega), si_eq, h32]
    exact (ni_sub (a := v + 1) (b := 1) (by omega)).trans (by rw [show v + 1 - 1 = v by omega])
  · intro j j1 j2; rw [b3 j j1, gi_ne (by omega), gi_ne (by omega), si_ff' j2]
  · intro a a1 a2 a3 a4; rw [b5 a a1 a2 a3 a4, gi_ne a4, gi_ne a4, gi_ne a1]
  · rw [(b8 m (by omega)).2.2, si_ff' (by omega), si_eq]; exact ni_add q 1
  · rw [(b8 q (by omega)).2.2, si_eq]
  · intro j hj
    refine ⟨?_, ?_⟩
    · rw [(b8 j hj).1, gi_ne (by omega), gi_ne (by omega), gi_ne (by omega)]
    · rw [(b8 j hj).2.1, gi_ne (by omega), gi_ne (by omega), gi_ne (by omega)]
  · intro j j1 j2 j3; rw [(b8 j j1).2.2, si_ff' j3, si_ff' j2, gi_ne (by omega)]
  · intro by_ n T own wd i c r A hR
    exact b9 _ _ _ _ _ _ _ _ _ (rB_si (rB_si (rB_si hR (by omega)) (by omega)) (by omega))
  · refine QB.trans (B := si (si (si B 181 32 (gi B 181 32 - 1)) 190 m (ni q + 1)) 190 q (ni p)) ⟨fun j hj => ?_, rfl, ?_, rfl, ?_⟩ b11
    · rw [gi_ne (by omega), gi_ne (by omega), si_ff' (by omega)]
    · rw [gi_ne (by omega), gi_ne (by omega), gi_ne (by omega)]
    · rw [gi_ne (by omega), gi_ne (by omega), gi_ne (by omega)]

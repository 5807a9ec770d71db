-- needs: 74.sclsb 75.num 76.rel 77.cong 78.sim 79.qa 79.qb 79.ra 79.rb 79.rc 79.rd
-- ===== once both have stopped =====
section Bkn
variable {A : Mem}
theorem bk_kind (h : ¬ gi A 7 5 = 0) : S_X4_kind A = some (4, A) := by unfold S_X4_kind; rw [if_pos h]
theorem bk_reject (h : ¬ gi A 7 5 = 0) : S_X4_reject A = some ((), A) := by unfold S_X4_reject; rw [if_pos h]
theorem bk_take (h : ¬ gi A 7 5 = 0) {x : Int32} (hx : ¬ (4 : Int32) = x) : S_X4_take x A = some (0, A) := by
  unfold S_X4_take; rw [bk_kind h, bS]; dsimp only; rw [if_neg hx, bk_reject h, bS]
theorem bk_minus (h : ¬ gi A 7 5 = 0) : S_X4_takeMinus A = some (0, A) := by
  unfold S_X4_takeMinus; rw [bk_kind h, bS]; dsimp only; rw [if_neg (by decide)]
end Bkn
section Bkm
variable {by_ : Nat → Nat} {n T own : Nat} {wd : Nat → Int64} {A B : Mem} {b : Nat}
theorem Bk.content (h : Bk by_ n T own wd b A B) : ∃ x, S_X4_content A = some (x, A) := by
  obtain ⟨hs, h1, h2, h3, ⟨i, h4, h5⟩, h6, h7⟩ := h
  obtain ⟨q1, q2, q3, q4, q5, q6, q7⟩ := hs.2.2.2.2.2.1
  have n9 := hs.n9
  unfold S_X4_content
  rw [h5, q2, if_neg (fun e => by have := (ni_le (by omega) (by omega)).mp e; omega), gdT ((ni_inb (by omega)).mpr (by omega))]
  exact ⟨_, rfl⟩
theorem Bk.place (h : Bk by_ n T own wd b A B) : ∃ x, S_X4_place A = some (x, A) := by
  obtain ⟨hs, h1, h2, h3, ⟨i, h4, h5⟩, h6, h7⟩ := h
  obtain ⟨q1, q2, q3, q4, q5, q6, q7⟩ := hs.2.2.2.2.2.1
  have n9 := hs.n9
  unfold S_X4_place
  rw [h5, q2, if_neg (fun e => by have := (ni_le (by omega) (by omega)).mp e; omega), gdT ((ni_inb (by omega)).mpr (by omega))]
  exact ⟨_, rfl⟩
theorem Bk.reference (h : Bk by_ n T own wd b A B) {rS : Int32 → Mem → Option (Unit × Mem)} {x y : Int32} : S_X4_readReference rS x y A = some ((), A) := by
  obtain ⟨q, hq⟩ := h.content
  unfold S_X4_readReference
  rw [hq, bS]; dsimp only
  rw [bk_take h.2.1 (by decide), bS]; dsimp only
  rw [if_neg (by simp)]
theorem Bk.operand (h : Bk by_ n T own wd b A B) {rS : Int32 → Mem → Option (Unit × Mem)} {x : Int32} : S_X4_readOperand rS x A = some ((), A) := by
  unfold S_X4_readOperand
  rw [bk_minus h.2.1, bS]; dsimp only
  rw [bk_kind h.2.1, bS]; dsimp only
  rw [if_pos (by decide), if_pos (by decide), if_pos (by decide)]
  unfold SJ_X4_readOperand_92 SJ_X4_readOperand_101
  rw [h.reference, bS]; dsimp only
  rw [if_pos rfl]
theorem Bk.product (h : Bk by_ n T own wd b A B) {rS : Int32 → Mem → Option (Unit × Mem)} {x : Int32} : S_X4_readProduct rS x A = some ((), A) := by
  unfold S_X4_readProduct
  rw [h.operand, bS]; dsimp only
  rw [bk_kind h.2.1, bS]; dsimp only
  rw [show L_X4_factor 4 A = some (-1, A) from rfl, bS]; dsimp only
  rw [show FU = 3999999 + 1 from rfl, SJ_X4_readProduct_15]; dsimp only
  rw [if_neg (by decide), if_pos rfl]
theorem bk_sumlp {rS : Int32 → Mem → Option (Unit × Mem)} {x y : Int32} {F : Nat} (h : ¬ gi A 7 5 = 0) : SJ_X4_readSum_7 rS (F + 1) x y A = some ((), A) := by
  rw [SJ_X4_readSum_7]; dsimp only
  rw [bk_kind h, bS]; dsimp only
  rw [if_neg (show ¬ (4 : Int32) = 43 by decide), bk_kind h, bS]; dsimp only
  rw [if_pos (show ¬ (4 : Int32) = 45 by decide), ite_self]
theorem bk_prodlp {rS : Int32 → Mem → Option (Unit × Mem)} {x y : Int32} {F : Nat} (h : ¬ gi A 7 5 = 0) : SJ_X4_readProduct_15 rS (F + 1) x (-1) y A = some ((), A) := by
  rw [SJ_X4_readProduct_15]; dsimp only
  rw [if_pos rfl, ite_self]
theorem Bk.sum (h : Bk by_ n T own wd b A B) {rS : Int32 → Mem → Option (Unit × Mem)} {x : Int32} : S_X4_readSum rS x A = some ((), A) := by
  unfold S_X4_readSum
  rw [h.product, bS]; dsimp only
  rw [show FU = 3999999 + 1 from rfl, bk_sumlp h.2.1]
theorem bk_ch54 {rS : Int32 → Mem → Option (Unit × Mem)} {x : Int32} (h : ¬ gi A 7 5 = 0) : SJ_X4_readChoice_54 rS x A = some ((), A) := by
  unfold SJ_X4_readChoice_54
  rw [bk_kind h, bS]; dsimp only; rw [if_neg (by decide)]
theorem Bk.choice (h : Bk by_ n T own wd b A B) {F : Nat} {x : Int32} : S_X4_readChoice (F + 1) x A = some ((), A) := by
  rw [S_X4_readChoice]
  unfold SB_X4_readChoice
  by_cases hx : x ≤ 12
  · rw [if_pos hx, h.sum, bS]; dsimp only
    rw [bk_kind h.2.1, bS]; dsimp only
    rw [show L_X4_comparison 4 A = some (-1, A) from rfl, bS]; dsimp only
    rw [if_pos rfl, bk_ch54 h.2.1]
  · rw [if_neg hx, bk_reject h.2.1, bS]
theorem Bk.mono (h : Bk by_ n T own wd b A B) {b' : Nat} (hb : b ≤ b') : Bk by_ n T own wd b' A B := by
  obtain ⟨hs, h1, h2, h3, h4, h6, ⟨r, h7, h8⟩⟩ := h
  exact ⟨hs, h1, h2, h3, h4, h6, ⟨r, by omega, h8⟩⟩
theorem Bk.emC (h : Bk by_ n T own wd b A B) {o : Int32} {a : Int64} : ∃ x A', S_X0_emit o a A = some (x, A') ∧ FrC A A' ∧ Bk by_ n T own wd b A' B := by
  have h0 := h
  obtain ⟨hs, h1, h2, h3, h4, ⟨c, c1, c2⟩, h7⟩ := h
  by_cases e : c = 1024
  · subst e; exact ⟨_, _, emC_full c2, FrC.rf, h0⟩
  · refine ⟨_, _, emC_eq c2 (by omega), emA_fr, st_fr hs emA_fr FrB.rf, ?_, h2, ?_, ?_, ⟨c + 1, by omega, si_eq⟩, h7⟩
    · rw [emA_f (by omega) (by omega)]; exact h1
    · rw [emA_f (by omega) (by omega), emA_f (by omega) (by omega)]; exact h3
    · rw [emA_f (by omega) (by omega)]; exact h4
theorem Bk.emR (h : Bk by_ n T own wd b A B) (hb : b < 2000) {w z : Int32} {v : Int64} : ∃ B', S_X11_emit w v z B = some ((), B') ∧ FrB B B' ∧ Bk by_ n T own wd (b + 1) A B' ∧ gi B' 181 31 = gi B 181 31 := by
  obtain ⟨hs, h1, h2, h3, h4, h6, ⟨r, r1, r2⟩⟩ := h
  refine ⟨_, emR_eq r2 (by omega), emB_fr, ⟨st_fr hs FrC.rf emB_fr, h1, ?_, ?_, h4, h6, ⟨r + 1, by omega, si_eq⟩⟩, ?_⟩
  · rw [emB_f (by omega) (by omega)]; exact h2
  · rw [emB_f (by omega) (by omega), emB_f (by omega) (by omega)]; exact h3
  · rw [emB_f (by omega) (by omega)]
theorem Bk.land (h : Bk by_ n T own wd b A B) {j : Int32} : ∃ A', S_X0_landHere j A = some ((), A') ∧ FrC A A' ∧ Bk by_ n T own wd b A' B := by
  have h0 := h
  obtain ⟨hs, h1, h2, h3, h4, ⟨c, c1, c2⟩, h7⟩ := h
  unfold S_X0_landHere
  by_cases e : j < 0
  · rw [if_pos e]; exact ⟨_, rfl, FrC.rf, h0⟩
  · rw [if_neg e]
    by_cases e2 : gi A 8 6 ≤ j
    · rw [if_pos e2]; exact ⟨_, rfl, FrC.rf, h0⟩
    · rw [if_neg e2]
      rcases i_cases j with q | ⟨q, q1, rfl⟩
      · exact absurd q e
      · have : q < c := by
          refine Nat.not_le.mp fun z => e2 ?_
          rw [c2]; exact (ni_le (by omega) (by omega)).mpr z
        rw [gdT ((ni_inb (by omega)).mpr (by omega))]
        exact ⟨_, rfl, frC_10, st_fr hs frC_10 FrB.rf, h1, h2, h3, h4, ⟨c, c1, c2⟩, h7⟩
theorem Bk.put (h : Bk by_ n T own wd b A B) {j : Nat} {x : Int64} : Bk by_ n T own wd b A (sl B 192 j x) := by
  obtain ⟨hs, h1, h2, h3, h4, h6, h7⟩ := h
  exact ⟨st_fr hs FrC.rf frB_l, h1, h2, h3, h4, h6, h7⟩
theorem Bk.f31 (h : Bk by_ n T own wd b A B) {x : Int32} : Bk by_ n T own wd b A (si B 181 31 x) := by
  obtain ⟨hs, h1, h2, h3, h4, h6, ⟨r, r1, r2⟩⟩ := h
  refine ⟨st_fr hs FrC.rf (frB_f (by omega)), h1, ?_, ?_, h4, h6, ⟨r, r1, ?_⟩⟩
  · rw [si_ff' (by omega)]; exact h2
  · rw [si_ff' (by omega), si_ff' (by omega)]; exact h3
  · rw [si_ff' (by omega)]; exact r2
theorem wr_takes (h : ¬ gi B 181 11 = 0) {x : Int32} : S_X11_takes x B = some (0, B) := by unfold S_X11_takes; rw [if_pos h]
theorem wr_must (h : ¬ gi B 181 11 = 0) {x : Int32} : S_X11_must x B = some ((), B) := by unfold S_X11_must; rw [if_neg h]
theorem wr_stops (h : ¬ gi B 181 11 = 0) : S_X11_stops B = some ((), B) := by unfold S_X11_stops; rw [if_neg h]
theorem wr_formula (h : ¬ gi B 181 11 = 0) {F : Nat} : S_X11_formula (F + 1) B = some ((), B) := by
  rw [S_X11_formula]; unfold SB_X11_formula; rw [if_neg h]
theorem wr_sumlp (h : ¬ gi B 181 11 = 0) {rS : Mem → Option (Unit × Mem)} {F : Nat} : SJ_X11_sum_4 rS (F + 1) B = some ((), B) := by
  rw [SJ_X11_sum_4]; dsimp only; rw [if_pos h]
theorem wr_prodlp (h : ¬ gi B 181 11 = 0) {rS : Mem → Option (Unit × Mem)} {F : Nat} : SJ_X11_product_4 rS (F + 1) B = some ((), B) := by
  rw [SJ_X11_product_4]; dsimp only; rw [if_pos h]
theorem Bk.called (h : Bk by_ n T own wd b A B) (hb : b < 2000) {rS : Mem → Option (Unit × Mem)} {x : Int64} {y : Int32} : ∃ B', S_X11_called rS x y B = some ((), B') ∧ FrB B B' ∧ Bk by_ n T own wd (b + 1) A B' := by
  obtain ⟨B', r1, r2, r3, _⟩ := h.emR hb (w := 6) (v := x) (z := y)
  refine ⟨B', ?_, r2, r3⟩
  unfold S_X11_called
  rw [wr_takes h.2.2.1, bS]; dsimp only
  rw [if_pos rfl, r1, bS]
end Bkm
-- ===== what has been written stays =====
def Kb (c r : Nat) (A B A' B' : Mem) : Prop := (∀ j, j < c → gi A' 9 j = gi A 9 j ∧ gl A' 10 j = gl A 10 j) ∧ (∀ j, j < r → gi B' 191 j = gi B 191 j ∧ gl B' 192 j = gl B 192 j ∧ gi B' 193 j = gi B 193 j) ∧ (∀ Y, bt (gi A 8 1) Y = true → bt (gi A' 8 1) Y = true) ∧ (¬ gi A 7 6 = 0 → ¬ gi A' 7 6 = 0)
theorem Kb.rf {c r : Nat} {A B : Mem} : Kb c r A B A B := ⟨fun _ _ => ⟨rfl, rfl⟩, fun _ _ => ⟨rfl, rfl, rfl⟩, fun _ h => h, fun h => h⟩
theorem Kb.trans {c r c1 r1 : Nat} {A B A1 B1 A2 B2 : Mem} (h : Kb c r A B A1 B1) (g : Kb c1 r1 A1 B1 A2 B2) (hc : c ≤ c1) (hr : r ≤ r1) : Kb c r A B A2 B2 :=
  ⟨fun j hj => ⟨(g.1 j (by omega)).1.trans (h.1 j hj).1, (g.1 j (by omega)).2.trans (h.1 j hj).2⟩, fun j hj => ⟨(g.2.1 j (by omega)).1.trans (h.2.1 j hj).1, (g.2.1 j (by omega)).2.1.trans (h.2.1 j hj).2.1, (g.2.1 j (by omega)).2.2.trans (h.2.1 j hj).2.2⟩, fun Y e => g.2.2.1 Y (h.2.2.1 Y e), fun e => g.2.2.2 (h.2.2.2 e)⟩
/-- the smaller of the two -/
theorem Kb.tr' {c r c1 r1 : Nat} {A B A1 B1 A2 B2 : Mem} (h : Kb c1 r1 A B A1 B1) (g : Kb c r A1 B1 A2 B2) (hc : c ≤ c1) (hr : r ≤ r1) : Kb c r A B A2 B2 :=
  ⟨fun j hj => ⟨(g.1 j hj).1.trans (h.1 j (by omega)).1, (g.1 j hj).2.trans (h.1 j (by omega)).2⟩, fun j hj => ⟨(g.2.1 j hj).1.trans (h.2.1 j (by omega)).1, (g.2.1 j hj).2.1.trans (h.2.1 j (by omega)).2.1, (g.2.1 j hj).2.2.trans (h.2.1 j (by omega)).2.2⟩, fun Y e => g.2.2.1 Y (h.2.2.1 Y e), fun e => g.2.2.2 (h.2.2.2 e)⟩
theorem kb_em {c r : Nat} {A B : Mem} {o w z : Int32} {a v : Int64} : Kb c r A B (emA A c o a) (emB B r w v z) := by
  refine ⟨fun j hj => ⟨?_, ?_⟩, fun j hj => ⟨?_, ?_, ?_⟩, fun Y e => ?_, fun e => ?_⟩
  · rw [emA_9, if_neg (by omega)]
  · rw [emA_10, if_neg (by omega)]
  · rw [emB_1, if_neg (by omega)]
  · rw [emB_2, if_neg (by omega)]
  · rw [emB_3, if_neg (by omega)]
  · rw [emA_f (by omega) (by omega)]; exact e
  · rw [emA_f (by omega) (by omega)]; exact e
theorem kb_emA {c r : Nat} {A B : Mem} {o : Int32} {a : Int64} : Kb c r A B (emA A c o a) B := by
  refine ⟨fun j hj => ⟨?_, ?_⟩, fun j hj => ⟨rfl, rfl, rfl⟩, fun Y e => ?_, fun e => ?_⟩
  · rw [emA_9, if_neg (by omega)]
  · rw [emA_10, if_neg (by omega)]
  · rw [emA_f (by omega) (by omega)]; exact e
  · rw [emA_f (by omega) (by omega)]; exact e
theorem kb_emB {c r : Nat} {A B : Mem} {w z : Int32} {v : Int64} : Kb c r A B A (emB B r w v z) := by
  refine ⟨fun j hj => ⟨rfl, rfl⟩, fun j hj => ⟨?_, ?_, ?_⟩, fun Y e => e, fun e => e⟩
  · rw [emB_1, if_neg (by omega)]
  · rw [emB_2, if_neg (by omega)]
  · rw [emB_3, if_neg (by omega)]
theorem kb_adv {c r : Nat} {A B B' : Mem} {x : Int32} (h : Ad B B') : Kb c r A B (si A 7 2 x) B' := by
  refine ⟨fun j _ => ⟨?_, rfl⟩, fun j _ => ⟨?_, ?_, ?_⟩, fun Y e => ?_, fun e => ?_⟩
  · rw [gi_ne (by omega)]
  · rw [(h.2.1 191 (by omega)).1]
  · rw [(h.2.1 192 (by omega)).2]
  · rw [(h.2.1 193 (by omega)).1]
  · rw [gi_ne (by omega)]; exact e
  · rw [si_ff' (by omega)]; exact e
-- ===== a formula that lies in both =====
def CxQ (qq : Nat) (A : Mem) : Prop := qq ≤ 2 ∧ gi A 7 4 = ni qq
theorem FrC.cx {A A' : Mem} (f : FrC A A') {qq : Nat} (h : CxQ qq A) : CxQ qq A' := ⟨h.1, (f.2.2.2.1 4 (by omega) (by omega) (by omega) (by omega)).trans h.2⟩
theorem CxQ.eq {A : Mem} {qq q : Nat} (h : CxQ qq A) (e : gi A 7 4 = ni q) (hq : q ≤ 2) : qq = q := (ni_inj (by have := h.1; omega) (by omega)).mp (h.2.symm.trans e)
def EF (k : Bool × Nat) (own c r n h : Nat) (A B : Mem) : Prop := gi A 7 6 = 0 → ∀ (o : Nat → Int32) (a : Nat → Int64) (w : Nat → Int32) (v : Nat → Int64) (z : Nat → Int32) (ld : Int32), (∀ j, c ≤ j → j < c + n → o j = gi A 9 j ∧ a j = gl A 10 j) → (∀ j, r ≤ j → j < r + n → w j = gi B 191 j ∧ v j = gl B 192 j ∧ z j = gi B 193 j) → (∀ Y, bt (gi A 8 1) Y = true → bt ld Y = true) → E2 k.1 k.2 own ld o a w v z c r n h
theorem e2_mono {k : Bool} {mo own : Nat} {ld : Int32} {o w z : Nat → Int32} {a v : Nat → Int64} {c r n h h' : Nat} (e : E2 k mo own ld o a w v z c r n h) (hh : h ≤ h') : E2 k mo own ld o a w v z c r n h' := by
  have key := e (fun c r n h => ∀ h', h ≤ h' → E2 k mo own ld o a w v z c r n h') ?_
  · exact key h' hh
  · have E := e2_er k mo own ld o a w v z
    refine ⟨?_, ?_, ?_, ?_, ?_, ?_, ?_, ?_⟩
    · intro c r h n h1 h2 h3 h4 h5 h6 h' hh; exact E.1 c r h' n (by omega) h2 h3 h4 h5 h6
    · intro c r h h1 h2 h2' h3 h4 h' hh; exact E.2.1 c r h' (by omega) h2 h2' h3 h4
    · intro c r h j h1 h2 h2' h3 h4 h5 h6 h' hh; exact E.2.2.1 c r h' j (by omega) h2 h2' h3 h4 h5 h6
    · intro c r h h1 h2 h3 h4 h' hh; exact E.2.2.2.1 c r h' (by omega) h2 h3 h4
    · intro c r n h h1 h2 h3 h4 h5 h' hh; exact E.2.2.2.2.1 c r n h' h1 (h2 h' hh) h3 h4 h5
    · intro c r n h h1 h2 h3 h' hh; exact E.2.2.2.2.2.1 c r n h' (h1 h' hh) h2 h3
    · intro c r n m h g h1 h2 h3 h4 h' hh; exact E.2.2.2.2.2.2.1 c r n m h' g (h1 h' hh) (h2 g (Nat.le_refl _)) (by omega) h4
    · intro c r n m l h h1 h2 h3 h4 h5 h6 h7 h8 h9 h10 h11 h12 h' hh
      exact E.2.2.2.2.2.2.2 c r n m l h' h1 (h2 h' hh) h3 h4 h5 h6 (h7 h' hh) h8 h9 h10 h11 (h12 h' hh)
section Ef
variable {k : Bool × Nat} {own c r n m l h g : Nat} {A B : Mem}
theorem EF.mono (e : EF k own c r n h A B) {h' : Nat} (hh : h ≤ h') : EF k own c r n h' A B := fun f0 o a w v z ld q1 q2 q3 => e2_mono (e f0 o a w v z ld q1 q2 q3) hh
theorem EF.cg {A' B' : Mem} (e : EF k own c r n h A B) (q1 : ∀ j, c ≤ j → j < c + n → gi A' 9 j = gi A 9 j ∧ gl A' 10 j = gl A 10 j) (q2 : ∀ j, r ≤ j → j < r + n → gi B' 191 j = gi B 191 j ∧ gl B' 192 j = gl B 192 j ∧ gi B' 193 j = gi B 193 j) (q3 : ∀ Y, bt (gi A 8 1) Y = true → bt (gi A' 8 1) Y = true) (q4 : ¬ gi A 7 6 = 0 → ¬ gi A' 7 6 = 0) : EF k own c r n h A' B' :=
  fun f0 o a w v z ld p1 p2 p3 => e (Classical.byContradiction fun x => q4 x f0) o a w v z ld (fun j j1 j2 => ⟨(p1 j j1 j2).1.trans (q1 j j1 j2).1, (p1 j j1 j2).2.trans (q1 j j1 j2).2⟩) (fun j j1 j2 => ⟨(p2 j j1 j2).1.trans (q2 j j1 j2).1, (p2 j j1 j2).2.1.trans (q2 j j1 j2).2.1, (p2 j j1 j2).2.2.trans (q2 j j1 j2).2.2⟩) (fun Y hY => p3 Y (q3 Y hY))
theorem EF.kb {A' B' : Mem} {c1 r1 : Nat} (e : EF k own c r n h A B) (g : Kb c1 r1 A B A' B') (hc : c + n ≤ c1) (hr : r + n ≤ r1) : EF k own c r n h A' B' := e.cg (fun j _ j2 => g.1 j (by omega)) (fun j _ j2 => g.2.1 j (by omega)) g.2.2.1 g.2.2.2
theorem ef_bin (e1 : EF k own c r n h A B) (e2 : EF k own (c + n) (r + n) m g A B) (hg : g + 1 ≤ h) (hb : Bop k.1 (gi A 9 (c + n + m)) (gi B 191 (r + n + m))) : EF k own c r (n + m + 1) h A B := by
  intro f0 o a w v z ld q1 q2 q3
  refine (e2_er k.1 k.2 own ld o a w v z).2.2.2.2.2.2.1 c r n m h g (e1 f0 o a w v z ld (fun j j1 j2 => q1 j (by omega) (by omega)) (fun j j1 j2 => q2 j (by omega) (by omega)) q3) (e2 f0 o a w v z ld (fun j j1 j2 => q1 j (by omega) (by omega)) (fun j j1 j2 => q2 j (by omega) (by omega)) q3) hg ?_
  rw [(q1 (c + n + m) (by omega) (by omega)).1, (q2 (r + n + m) (by omega) (by omega)).1]; exact hb
theorem ef_neg (e1 : EF k own c r n h A B) (h1 : gi A 9 (c + n) = 5) (h2 : gi B 191 (r + n) = 8) : EF k own c r (n + 1) h A B := by
  intro f0 o a w v z ld q1 q2 q3
  refine (e2_er k.1 k.2 own ld o a w v z).2.2.2.2.2.1 c r n h (e1 f0 o a w v z ld (fun j j1 j2 => q1 j (by omega) (by omega)) (fun j j1 j2 => q2 j (by omega) (by omega)) q3) ?_ ?_
  · rw [(q1 (c + n) (by omega) (by omega)).1]; exact h1
  · rw [(q2 (r + n) (by omega) (by omega)).1]; exact h2
theorem ef_tab (hk : k.1 = false) (e1 : EF k own c r n h A B) (h1 : gi A 9 (c + n) = 4) (h2 : gi B 191 (r + n) = 7) (h3 : Rfn own (gi A 8 1) (gl A 10 (c + n)) (gl B 192 (r + n)) (gi B 193 (r + n))) : EF k own c r (n + 1) h A B := by
  intro f0 o a w v z ld q1 q2 q3
  refine (e2_er k.1 k.2 own ld o a w v z).2.2.2.2.1 c r n h hk (e1 f0 o a w v z ld (fun j j1 j2 => q1 j (by omega) (by omega)) (fun j j1 j2 => q2 j (by omega) (by omega)) q3) ?_ ?_ ?_
  · rw [(q1 (c + n) (by omega) (by omega)).1]; exact h1
  · rw [(q2 (r + n) (by omega) (by omega)).1]; exact h2
  · rw [(q1 (c + n) (by omega) (by omega)).2, (q2 (r + n) (by omega) (by omega)).2.1, (q2 (r + n) (by omega) (by omega)).2.2]
    obtain ⟨Y, nm, y1, y2, y3, y4, y5, y6⟩ := h3
    exact ⟨Y, nm, y1, y2, y3, y4, y5, fun e => q3 Y (y6 e)⟩
theorem ef_ref (hh : 1 ≤ h) (h1 : gi A 9 c = 3) (h2 : gi B 191 r = 6) (h3 : Rfn own (gi A 8 1) (gl A 10 c) (gl B 192 r) (gi B 193 r)) : EF k own c r 1 h A B := by
  intro f0 o a w v z ld q1 q2 q3
  refine (e2_er k.1 k.2 own ld o a w v z).2.2.2.1 c r h hh ?_ ?_ ?_
  · rw [(q1 c (by omega) (by omega)).1]; exact h1
  · rw [(q2 r (by omega) (by omega)).1]; exact h2
  · rw [(q1 c (by omega) (by omega)).2, (q2 r (by omega) (by omega)).2.1, (q2 r (by omega) (by omega)).2.2]
    obtain ⟨Y, nm, y1, y2, y3, y4, y5, y6⟩ := h3
    exact ⟨Y, nm, y1, y2, y3, y4, y5, fun e => q3 Y (y6 e)⟩
theorem ef_push (hh : 1 ≤ h) (hx : m < 1000000000) (h1 : gi A 9 c = 0) (h2 : gl A 10 c = nl m) (h3 : gi B 191 r = 0) (h4 : gl B 192 r = nl m) : EF k own c r 1 h A B := by
  intro f0 o a w v z ld q1 q2 q3
  exact (e2_er k.1 k.2 own ld o a w v z).1 c r h m hh hx ((q1 c (by omega) (by omega)).1.trans h1) ((q1 c (by omega) (by omega)).2.trans h2) ((q2 r (by omega) (by omega)).1.trans h3) ((q2 r (by omega) (by omega)).2.1.trans h4)
theorem ef_at (hk : k.1 = false) (hm : gi A 7 6 = 0 → k.2 = 1) (hh : 1 ≤ h) (h1 : gi A 9 c = 1) (h3 : gi B 191 r = 1) : EF k own c r 1 h A B := by
  intro f0 o a w v z ld q1 q2 q3
  exact (e2_er k.1 k.2 own ld o a w v z).2.1 c r h hh hk (hm f0) ((q1 c (by omega) (by omega)).1.trans h1) ((q2 r (by omega) (by omega)).1.trans h3)
theorem ef_set (hk : k.1 = false) (hq : gi A 7 6 = 0 → k.2 = 2) (hh : 1 ≤ h) (hm : m < 4) (h1 : gi A 9 c = 2) (h2 : gl A 10 c = nl m) (h3 : gi B 191 r = ni (2 + m)) : EF k own c r 1 h A B := by
  intro f0 o a w v z ld q1 q2 q3
  exact (e2_er k.1 k.2 own ld o a w v z).2.2.1 c r h m hh hk (hq f0) hm ((q1 c (by omega) (by omega)).1.trans h1) ((q1 c (by omega) (by omega)).2.trans h2) ((q2 r (by omega) (by omega)).1.trans h3)
theorem ef_cond (hk : k.1 = false) (e1 : EF k own c r n h A B) (h1 : gi A 9 (c + n) = 15) (h2 : gl A 10 (c + n) = nl (c + n + m + 2)) (h3 : gi B 191 (r + n) = 9) (h4 : gl B 192 (r + n) = nl (r + n + m + 2))
    (e2 : EF k own (c + n + 1) (r + n + 1) m h A B) (h5 : gi A 9 (c + n + m + 1) = 14) (h6 : gl A 10 (c + n + m + 1) = nl (c + n + m + l + 2)) (h7 : gi B 191 (r + n + m + 1) = 10) (h8 : gl B 192 (r + n + m + 1) = nl (r + n + m + l + 2))
    (e3 : EF k own (c + n + m + 2) (r + n + m + 2) l h A B) : EF k own c r (n + m + l + 2) h A B := by
  intro f0 o a w v z ld q1 q2 q3
  have p1 := q1 (c + n) (by omega) (by omega)
  have p2 := q2 (r + n) (by omega) (by omega)
  have p3 := q1 (c + n + m + 1) (by omega) (by omega)
  have p4 := q2 (r + n + m + 1) (by omega) (by omega)
  exact (e2_er k.1 k.2 own ld o a w v z).2.2.2.2.2.2.2 c r n m l h hk (e1 f0 o a w v z ld (fun j j1 j2 => q1 j (by omega) (by omega)) (fun j j1 j2 => q2 j (by omega) (by omega)) q3) (p1.1.trans h1) (p1.2.trans h2) (p2.1.trans h3) (p2.2.1.trans h4)
    (e2 f0 o a w v z ld (fun j j1 j2 => q1 j (by omega) (by omega)) (fun j j1 j2 => q2 j (by omega) (by omega)) q3) (p3.1.trans h5) (p3.2.trans h6) (p4.1.trans h7) (p4.2.1.trans h8)
    (e3 f0 o a w v z ld (fun j j1 j2 => q1 j (by omega) (by omega)) (fun j j1 j2 => q2 j (by omega) (by omega)) q3)
end Ef

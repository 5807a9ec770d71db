-- needs: 74.sclsb 75.num 76.rel 77.cong 78.sim 79.qa 79.qb 79.ra 79.rb 79.rc 79.rd 79.re 79.rf 79.rg 79.rh 79.ri
-- ===== the sum of a const, side by side =====
section Cs
variable {by_ : Nat → Nat} {n T own : Nat} {wd : Nat → Int64}
theorem si_comm {M : Mem} {a j b k : Nat} {x y : Int32} (h : ¬ (a = b ∧ j = k)) : si (si M a j x) b k y = si (si M b k y) a j x := by
  unfold si
  refine Prod.ext rfl (Prod.ext rfl (Prod.ext ?_ rfl))
  funext p q
  dsimp only
  by_cases h1 : p = a ∧ q = j
  · by_cases h2 : p = b ∧ q = k
    · exact absurd ⟨h1.1.symm.trans h2.1, h1.2.symm.trans h2.2⟩ h
    · simp [h1, h2]
      try (rintro rfl rfl; exact absurd ⟨rfl, rfl⟩ h)
  · by_cases h2 : p = b ∧ q = k
    · simp [h1, h2]
      try (rintro rfl rfl; exact absurd ⟨rfl, rfl⟩ h)
    · simp [h1, h2]
theorem lean_si {A : Mem} {m q : Int64} {p : Int32} {x : Int32} {w : Int32 × Mem} (h : S_X4_leanOn m p A = some w) : S_X4_leanOn m p (si A 7 2 x) = some (w.1, si w.2 7 2 x) ∧ gi w.2 7 2 = gi A 7 2 := by
  unfold S_X4_leanOn L_X10_yearIndex SJ_X4_leanOn_21 S_X4_note at h ⊢
  have e3 : gi (si A 7 2 x) 7 3 = gi A 7 3 := si_ff' (by omega)
  have e6 : gi (si A 7 2 x) 7 6 = gi A 7 6 := si_ff' (by omega)
  have bad : ∀ w : Int32 × Mem, (((if ¬ gi A 7 6 = 0 then some ((), A) else some ((), si (si A 7 6 3) 7 7 p)) : Option (Unit × Mem)).bind fun w1 => some (gi w1.2 7 3, w1.2)) = some w → (((if ¬ gi A 7 6 = 0 then some ((), si A 7 2 x) else some ((), si (si (si A 7 2 x) 7 6 3) 7 7 p)) : Option (Unit × Mem)).bind fun w1 => some (gi w1.2 7 3, w1.2)) = some (w.1, si w.2 7 2 x) ∧ gi w.2 7 2 = gi A 7 2 := by
    intro w hw
    by_cases h0 : ¬ gi A 7 6 = 0
    · rw [if_pos h0, bS] at hw
      rw [if_pos h0, bS]
      cases hw
      exact ⟨by rw [e3], rfl⟩
    · rw [if_neg h0, bS] at hw
      rw [if_neg h0, bS]
      cases hw
      refine ⟨?_, (si_ff' (by omega)).trans (si_ff' (by omega))⟩
      dsimp only
      rw [si_comm (M := A) (a := 7) (j := 2) (b := 7) (k := 6) (by omega), si_comm (a := 7) (j := 2) (b := 7) (k := 7) (by omega), si_ff' (by omega)]
  by_cases h1 : m < 1700
  · rw [if_pos h1, bS] at h ⊢
    dsimp only at h ⊢
    rw [if_pos rfl] at h ⊢
    rw [e6]; exact bad w h
  · rw [if_neg h1] at h ⊢
    by_cases h2 : 1730 ≤ m
    · rw [if_pos h2, bS] at h ⊢
      dsimp only at h ⊢
      rw [if_pos rfl] at h ⊢
      rw [e6]; exact bad w h
    · rw [if_neg h2, bS] at h ⊢
      dsimp only at h ⊢
      by_cases h3 : m.toInt32 - 1700 = -1
      · rw [if_pos h3] at h ⊢
        rw [e6]; exact bad w h
      · rw [if_neg h3] at h ⊢
        rw [e3]
        by_cases h4 : ¬ m.toInt32 - 1700 = gi A 7 3
        · rw [if_pos h4] at h ⊢
          cases h
          refine ⟨?_, by dsimp only; rw [gi_ne (by omega)]⟩
          dsimp only
          rw [show gi (si A 7 2 x) 8 1 = gi A 8 1 by rw [gi_ne (by omega)], si_comm (M := A) (by omega)]
        · rw [if_neg h4] at h ⊢
          rw [e6]; exact bad w h
theorem rej_pl {A B A' : Mem} {i c r : Nat} (h : R by_ n T own wd i c r A B) (e : S_X4_reject A = some ((), A')) : gi A' 7 7 = ni (pfN by_ n i) := by
  have hp := place_eq h
  obtain ⟨hs, d1, d2, d3, d4, d5, d6, d7, d8, d9⟩ := h
  obtain ⟨q1, q2, q3, q4, q5, q6, q7⟩ := hs.2.2.2.2.2.1
  have n9 := hs.n9
  unfold S_X4_reject SJ_X4_reject_54 at e
  unfold S_X4_place at hp
  have e1 : gi (si (si A 7 5 1) 7 6 1) 1 5 = gi A 1 5 := by rw [gi_ne (by omega), gi_ne (by omega)]
  have e2 : gi (si (si A 7 5 1) 7 6 1) 7 2 = gi A 7 2 := (si_ff' (by omega)).trans (si_ff' (by omega))
  have e3 : gi (si (si A 7 5 1) 7 6 1) 4 = gi A 4 := by rw [gi_ne (by omega), gi_ne (by omega)]
  rw [d3, if_neg (by simp), e1, e2, e3] at e
  rw [d2, q2, if_neg (fun e => by have := (ni_le (by omega) (by omega)).mp e; omega), gdT ((ni_inb (by omega)).mpr (by omega))] at hp e
  have hp := congrArg Prod.fst (Option.some.inj hp)
  dsimp only at hp
  rw [hp] at e
  cases e
  exact si_eq
theorem Bk.mix {A1 B1 A2 B2 : Mem} {b1 b2 : Nat} (h : Bk by_ n T own wd b1 A1 B1) (g : Bk by_ n T own wd b2 A2 B2) (hs : St by_ n T own wd A1 B2) (he : gi A1 7 7 = gi A2 7 7) : Bk by_ n T own wd b2 A1 B2 :=
  ⟨hs, h.2.1, g.2.2.1, ⟨h.2.2.2.1.1, g.2.2.2.1.2.1, he.trans g.2.2.2.1.2.2⟩, h.2.2.2.2.1, h.2.2.2.2.2.1, g.2.2.2.2.2.2⟩
theorem Bk.f35 {A B : Mem} {b : Nat} (h : Bk by_ n T own wd b A B) {x : Int32} : Bk by_ n T own wd b A (si B 181 35 x) := by
  obtain ⟨hs, h1, h2, h3, h4, h6, ⟨r, r1, r2⟩⟩ := h
  refine ⟨st_fr hs FrC.rf (frB_f (by omega)), h1, ?_, ?_, h4, h6, ⟨r, r1, ?_⟩⟩
  · rw [si_ff' (by omega)]; exact h2
  · rw [si_ff' (by omega), si_ff' (by omega)]; exact h3
  · rw [si_ff' (by omega)]; exact r2
theorem Bk.yearOf {A B : Mem} {b : Nat} (h : Bk by_ n T own wd b A B) {x q : Int32} : ∃ z B', S_X11_yearOf x q B = some (z, B') ∧ FrB B B' ∧ Bk by_ n T own wd b A B' := by
  have bad : SJ_X11_yearOf_26 q B = some (-1, B) := by
    unfold SJ_X11_yearOf_26 S_X11_tells
    rw [if_pos h.2.2.1, bS]
  unfold S_X11_yearOf
  by_cases h1 : x < 1700
  · rw [if_pos h1]; exact ⟨_, _, bad, FrB.rf, h⟩
  · rw [if_neg h1]
    by_cases h2 : 1730 ≤ x
    · rw [if_pos h2]; exact ⟨_, _, bad, FrB.rf, h⟩
    · rw [if_neg h2]
      by_cases h3 : ¬ x - 1700 = gi B 181 12
      · rw [if_pos h3]; exact ⟨_, _, rfl, frB_f (by omega), h.f35⟩
      · rw [if_neg h3]; exact ⟨_, _, bad, FrB.rf, h⟩
theorem Bk.constName {A B : Mem} {b : Nat} (h : Bk by_ n T own wd b A B) {x : Int32} : S_X4_readConstName x A = some ((), A) := by
  obtain ⟨q, hq⟩ := h.content
  unfold S_X4_readConstName
  rw [hq, bS]; dsimp only
  rw [bk_take h.2.1 (by decide), bS]; dsimp only
  rw [if_pos rfl]
theorem Bk.constOperand {A B : Mem} {b : Nat} (h : Bk by_ n T own wd b A B) : S_X4_readConstantOperand A = some ((), A) := by
  unfold S_X4_readConstantOperand
  rw [bk_minus h.2.1, bS]; dsimp only
  rw [bk_kind h.2.1, bS]; dsimp only
  rw [if_pos (by decide), h.constName, bS]
  unfold SJ_X4_readConstantOperand_39
  rw [if_pos rfl]
theorem bk_cs79 {A : Mem} {k : Int32 → Int32 → Mem → Option (Unit × Mem)} {y : Int32} (h : ¬ gi A 7 5 = 0) : SJ_X4_readConstantSum_79 k y A = some ((), A) := by
  unfold SJ_X4_readConstantSum_79
  rw [bk_kind h, bS]; dsimp only
  rw [if_neg (show ¬ (4 : Int32) = 43 by decide), bk_kind h, bS]; dsimp only
  rw [if_neg (show ¬ (4 : Int32) = 45 by decide)]
theorem bk_cs17 {A : Mem} {k : Int32 → Int32 → Mem → Option (Unit × Mem)} {x y z : Int32} {F : Nat} (h : ¬ gi A 7 5 = 0) : SJ_X4_readConstantSum_17 k (F + 1) x y z A = SJ_X4_readConstantSum_64 k x y A := by
  rw [SJ_X4_readConstantSum_17]; dsimp only
  rw [bk_kind h, bS]; dsimp only
  rw [if_pos (show ¬ (4 : Int32) = 42 by decide), ite_self]
theorem Bk.constSum {A B : Mem} {b : Nat} (h : Bk by_ n T own wd b A B) : S_X4_readConstantSum A = some ((), A) := by
  unfold S_X4_readConstantSum
  rw [show FU = 3999999 + 1 from rfl, SJ_X4_readConstantSum_4]; dsimp only
  rw [if_neg (by decide), h.constOperand, bS]; dsimp only
  rw [show FU = 3999999 + 1 from rfl, bk_cs17 h.2.1]
  unfold SJ_X4_readConstantSum_64
  rw [if_pos rfl, bk_cs79 h.2.1]
theorem wr_plainPart {B : Mem} (h : ¬ gi B 181 11 = 0) : S_X11_plainPart B = some ((), B) := by
  unfold S_X11_plainPart
  rw [wr_takes h, bS]; dsimp only
  rw [if_neg h]
theorem wr_pprodlp {B : Mem} (h : ¬ gi B 181 11 = 0) {F : Nat} : SJ_X11_plainProduct_4 (F + 1) B = some ((), B) := by
  rw [SJ_X11_plainProduct_4]; dsimp only
  rw [wr_takes h, bS]; dsimp only
  rw [if_pos rfl]
theorem wr_psumlp {B : Mem} (h : ¬ gi B 181 11 = 0) {F : Nat} : SJ_X11_plainSum_4 (F + 1) B = SJ_X11_plainSum_57 B := by
  rw [SJ_X11_plainSum_4]; dsimp only
  rw [if_pos h]
theorem wr_plainSum {B : Mem} (h : ¬ gi B 181 11 = 0) : S_X11_plainSum B = SJ_X11_plainSum_57 B := by
  unfold S_X11_plainSum S_X11_plainProduct
  rw [wr_plainPart h, bS]; dsimp only
  rw [show FU = 3999999 + 1 from rfl, wr_pprodlp h, bS]; dsimp only
  rw [wr_psumlp h]
/-- a part without its minus -/
def cpC (mn : Int32) (M : Mem) : Option (Unit × Mem) :=
  (S_X4_kind M).bind fun w3 =>
  if ¬ w3.1 = (3 : Int32) then
  ((S_X4_readConstName (gi w3.2 7 3) w3.2).bind fun w4 =>
  SJ_X4_readConstantOperand_39 mn w4.2)
  else
  ((S_X4_readNumberOrYear w3.2).bind fun w5 =>
  if w5.1 = (-1 : Int32) then
  (SJ_X4_readConstantOperand_28 mn w5.2)
  else
  ((S_X4_readConstName w5.1 w5.2).bind fun w6 =>
  SJ_X4_readConstantOperand_28 mn w6.2))
def cpR (mn : Int32) (M : Mem) : Option (Unit × Mem) :=
  if (gi M 181 11) = 0 then
  (if ¬ (gi M 181 6) = 0 then
  (if ¬ (gi M 181 6) = (1 : Int32) then
  ((S_X11_stops M).bind fun w3 =>
  SJ_X11_plainPart_105 mn w3.2)
  else
  ((S_X11_advance M).bind fun w4 =>
  (S_X11_takes (46 : Int32) w4.2).bind fun w5 =>
  if w5.1 = 0 then
  ((S_X11_emit (0 : Int32) ((gi M 181 9).toInt64) (-1 : Int32) w5.2).bind fun w6 =>
  SJ_X11_plainPart_98 mn w6.2)
  else
  ((S_X11_takesName w5.2).bind fun w7 =>
  (S_X11_yearOf (gi M 181 9) (gi M 181 7) w7.2).bind fun w8 =>
  (S_X11_emit (6 : Int32) w7.1 w8.1 w8.2).bind fun w9 =>
  SJ_X11_plainPart_98 mn w9.2)))
  else
  ((S_X11_emit (6 : Int32) (gl M 181 8) (-1 : Int32) M).bind fun w10 =>
  (S_X11_advance w10.2).bind fun w11 =>
  SJ_X11_plainPart_105 mn w11.2))
  else
  (some ((), M))
/-- one part of a const's sum -/
theorem lk_cpart {A B : Mem} {i c r : Nat} (mn : Int32) (h : R by_ n T own wd i c r A B) (hc : c ≤ pfN by_ n i + 60) (hr2 : r ≤ pfN by_ n i + 60) :
    ∃ A' B', cpC mn A = SJ_X4_readConstantOperand_39 mn A' ∧ cpR mn B = SJ_X11_plainPart_105 mn B' ∧ FrC A A' ∧ FrB B B' ∧ (Bk by_ n T own wd 1001 A' B' ∨ OkP by_ n T own wd (true, 0) 1 i c r A B A' B') := by
  have p9 := h.p9
  have kl := kap_lt h
  have hA3 : gi A 7 3 = ni own := h.1.2.2.2.2.2.2.2.2.1
  have o30 : own < 30 := h.1.2.2.2.2.2.2.2.2.2.2.1
  unfold cpC cpR
  rw [kind_eq h, bS, h.2.2.2.2.1, if_pos rfl]; dsimp only
  by_cases k3 : kap by_ n T wd i = 3
  · rw [k3, if_neg (show ¬ ¬ ni 3 = 3 by simp; rfl)]
    have tk : gi B 181 6 = 1 ∧ gi B 181 9 = ni (chi by_ n T i) ∧ chi by_ n T i < 1000000000 := by
      rcases tok h with t | t | t | t | ⟨w, t⟩ | ⟨b', t⟩
      · omega
      · omega
      · omega
      · exact t.2.2
      · omega
      · omega
    obtain ⟨t1, t2, t3⟩ := tk
    obtain ⟨B1, a1, a2, a3, a4, a5, a6, a7, a8⟩ := adv' h (by omega)
    rw [t1, if_pos (by decide), if_neg (by simp), a1, bS]; dsimp only
    unfold S_X4_readNumberOrYear
    rw [place_eq h, bS]; dsimp only
    rw [content_eq h, bS]; dsimp only
    rw [kind_eq a2, bS]; dsimp only
    have kl2 := kap_lt a2
    have q9 := a2.p9
    by_cases k46 : kap by_ n T wd (i + 1) = 46
    · obtain ⟨B2, s1, s2, s3, s4⟩ := takes_y a2 (b := 46) (x := 46) rfl (by omega) (by omega) k46
      rw [k46, if_pos (show ni 46 = (46 : Int32) from rfl), s1, bS]; dsimp only
      rw [if_neg (show ¬ (1 : Int32) = 0 by decide), where_eq h, t2]
      have ft := FI.lt h (by omega)
      have fA2 : FrC A (si (si A 7 2 (gi A 7 2 + 1)) 7 2 (gi (si A 7 2 (gi A 7 2 + 1)) 7 2 + 1)) := a4.trans (frC_7 (by omega))
      have s9 := s2.p9
      have kl3 := kap_lt s2
      generalize hA2 : si (si A 7 2 (gi A 7 2 + 1)) 7 2 (gi (si A 7 2 (gi A 7 2 + 1)) 7 2 + 1) = A2 at *
      have ft2 : gi A2 7 6 = 0 ∨ ∃ p, gi A2 7 7 = ni p ∧ p < pfN by_ n i := by
        rw [← hA2, si_ff' (by omega), si_ff' (by omega), si_ff' (by omega), si_ff' (by omega)]; exact ft
      have K2 : Kb c r A B A2 B2 := by rw [← hA2]; exact a6.trans (kb_adv s3) (Nat.le_refl _) (Nat.le_refl _)
      have fB2 := a5.trans s3.fr
      obtain ⟨A3, B3, Y, y1, y2, y3, y4, y5, y6, y7, y8, y9, _⟩ := lk_year (m := chi by_ n T i) (q := pfN by_ n i) s2 t3 (by omega) ft2
      rw [y1, bS, bS]; dsimp only
      rw [if_neg (ni_ne1 (by omega))]
      unfold SJ_X4_readConstantOperand_28 SJ_X11_plainPart_98 S_X4_readConstName S_X11_takesName SJ_X11_takesName_14
      rw [content_eq y5, bS, s2.2.2.2.2.1, if_neg (by simp)]; dsimp only
      by_cases k2 : kap by_ n T wd (i + 1 + 1) = 2
      · have tk : gi B2 181 6 = 0 ∧ gl B2 181 8 = nl (chi by_ n T (i + 1 + 1)) ∧ chi by_ n T (i + 1 + 1) < 1099511627776 := by
          rcases tok s2 with t | t | t | t | ⟨w, t⟩ | ⟨b', t⟩
          · omega
          · omega
          · exact t.2.2
          · omega
          · omega
          · omega
        obtain ⟨T1, T2, T3⟩ := tk
        obtain ⟨B4, x1, x2, x3, x4, x5, x6, x7, x8⟩ := adv' s2 (by omega)
        rw [if_pos T1, x1, bS, bS, T2]; dsimp only
        rw [take_y y5 (b := 2) (x := 2) rfl k2, bS]; dsimp only
        rw [if_neg (show ¬ (1 : Int32) = 0 by decide)]
        obtain ⟨L1, L2⟩ := lean_si (q := 0) (x := gi A2 7 2 + 1) y1
        dsimp only at L1 L2
        rw [L2]
        have ft3 : gi (si A2 7 2 (gi A2 7 2 + 1)) 7 6 = 0 ∨ ∃ p, gi (si A2 7 2 (gi A2 7 2 + 1)) 7 7 = ni p ∧ p < pfN by_ n i := by
          rw [si_ff' (by omega), si_ff' (by omega)]; exact ft2
        obtain ⟨A5, B5, Y', z1, z2, z3, z4, z5, z6, z7, z8, z9, _⟩ := lk_year (m := chi by_ n T i) (q := pfN by_ n i) x2 t3 (by omega) ft3
        rw [L1] at z1
        have eY : ni Y = ni Y' := congrArg Prod.fst (Option.some.inj z1)
        have eA : si A3 7 2 (gi A2 7 2 + 1) = A5 := congrArg Prod.snd (Option.some.inj z1)
        have eY := (ni_inj (by omega) (by omega)).mp eY
        subst eY
        rw [eA, z2, bS]; dsimp only
        unfold S_X0_emitReference
        rw [packRef y3 T3]
        have w9 := z5.p9
        obtain ⟨e1, e2, e3⟩ := lk_em (o := 3) (a := nl (Y * 1099511627776 + chi by_ n T (i + 1 + 1))) (w := 6) (v := nl (chi by_ n T (i + 1 + 1))) (z := if Y = own then -1 else ni Y) z5 (by omega) (by omega)
        rw [e1, e2, bS, bS, bS, bS]
        refine ⟨_, _, rfl, rfl, ((fA2.trans x4).trans z6).trans emA_fr, ((fB2.trans x5).trans z7).trans emB_fr, Or.inr ⟨i + 1 + 1 + 1, 1, e3, ((K2.trans x6 (Nat.le_refl _) (Nat.le_refl _)).trans z8 (Nat.le_refl _) (Nat.le_refl _)).trans kb_em (Nat.le_refl _) (Nat.le_refl _), by omega, ?_, ?_⟩⟩
        · refine ef_ref (by omega) ?_ ?_ ?_
          · rw [emA_9, if_pos rfl]
          · rw [emB_1, if_pos rfl]
          · rw [emA_10, if_pos rfl, emB_2, if_pos rfl, emB_3, if_pos rfl, emA_f (by omega) (by omega)]
            exact ⟨Y, chi by_ n T (i + 1 + 1), y3, T3, rfl, rfl, rfl, z4⟩
        · rw [emB_f (by omega) (by omega), z9, x7, s3.2.2.1 31 (by omega), a7]
      · have T1 : ¬ gi B2 181 6 = 0 := by
          rcases tok s2 with t | t | t | t | ⟨w, t⟩ | ⟨b', t⟩
          · rw [t.2.2]; decide
          · rw [t.2.2]; decide
          · omega
          · rw [t.2.2.1]; decide
          · rw [t.2.2.2.1]; decide
          · rw [t.2.2.2.2.1]; decide
        obtain ⟨A4, B4, x1, x2, x3, x4, x5⟩ := stop s2 (by omega)
        obtain ⟨A5, B5, z1, z2, z3, z4, z5⟩ := stop y5 (by omega)
        have bk : Bk by_ n T own wd r A5 B4 := z5.mix x5 (st_fr s2.1 (y6.trans z3) x4) ((rej_pl y5 z1).trans (rej_pl s2 x1).symm)
        rw [if_neg T1, take_n y5 (b := 2) (x := 2) rfl (by omega) k2, z1, x2, bS, bS, bS, bS]; dsimp only
        rw [if_pos rfl, bS]
        obtain ⟨z, B6, w1, w2, w3⟩ := bk.yearOf (x := ni (chi by_ n T i)) (q := ni (pfN by_ n i))
        rw [w1, bS]; dsimp only
        obtain ⟨B7, v1, v2, v3, _⟩ := w3.emR (by omega) (w := 6) (v := 0) (z := z)
        rw [v1, bS]
        exact ⟨A5, B7, rfl, rfl, (fA2.trans y6).trans z3, ((fB2.trans x4).trans w2).trans v2, Or.inl (v3.mono (by omega))⟩
    · rw [if_neg (ni_nn (b := 46) (x := 46) rfl (by omega) (by omega) k46), takes_n a2 (b := 46) (x := 46) rfl (by omega) (by omega) k46, bS]; dsimp only
      rw [if_pos rfl, t2, ni_l (by omega)]
      obtain ⟨e1, e2, e3⟩ := lk_em (o := 0) (a := nl (chi by_ n T i)) (w := 0) (v := nl (chi by_ n T i)) (z := -1) a2 (by omega) (by omega)
      rw [e1, e2, bS, bS, bS]; dsimp only
      rw [if_pos rfl]
      unfold SJ_X4_readConstantOperand_28 SJ_X11_plainPart_98
      refine ⟨_, _, rfl, rfl, a4.trans emA_fr, a5.trans emB_fr, Or.inr ⟨i + 1, 1, e3, a6.trans kb_em (Nat.le_refl _) (Nat.le_refl _), a8, ?_, ?_⟩⟩
      · refine ef_push (by omega) t3 ?_ ?_ ?_ ?_
        · rw [emA_9, if_pos rfl]
        · rw [emA_10, if_pos rfl]
        · rw [emB_1, if_pos rfl]
        · rw [emB_2, if_pos rfl]
      · rw [emB_f (by omega) (by omega)]; exact a7
  · rw [if_pos (ni_nn (b := 3) (x := 3) rfl (by omega) (by omega) k3)]
    unfold S_X4_readConstName
    rw [content_eq h, bS]; dsimp only
    by_cases k2 : kap by_ n T wd i = 2
    · have tk : gi B 181 6 = 0 ∧ gl B 181 8 = nl (chi by_ n T i) ∧ chi by_ n T i < 1099511627776 := by
        rcases tok h with t | t | t | t | ⟨w, t⟩ | ⟨b', t⟩
        · omega
        · omega
        · exact t.2.2
        · omega
        · omega
        · omega
      obtain ⟨T1, T2, T3⟩ := tk
      rw [T1, if_neg (by simp), T2, take_y h (b := 2) (x := 2) rfl k2, bS]; dsimp only
      rw [if_neg (show ¬ (1 : Int32) = 0 by decide), emR_eq h.2.2.2.2.2.2.2.2.1 (by omega), bS, hA3]; dsimp only
      unfold S_X0_emitReference
      rw [packRef o30 T3]
      have r1 := r_emB (w := 6) (v := nl (chi by_ n T i)) (z := -1) h
      obtain ⟨B2, a1, a2, a3, a4, a5, a6, a7, a8⟩ := adv' r1 (by omega)
      rw [a1, bS]; dsimp only
      rw [emC_eq a2.2.2.2.2.2.2.2.1 (by have := a2.p9; omega), bS, bS, bS]; dsimp only
      refine ⟨_, _, rfl, rfl, a4.trans emA_fr, emB_fr.trans a5, Or.inr ⟨i + 1, 1, r_emA a2, ((kb_emB.trans a6 (Nat.le_refl _) (by omega)).trans kb_emA (Nat.le_refl _) (Nat.le_refl _)), a8, ?_, ?_⟩⟩
      · refine ef_ref (by omega) ?_ ?_ ?_
        · rw [emA_9, if_pos rfl]
        · rw [(a3.2.1 191 (by omega)).1, emB_1, if_pos rfl]
        · rw [emA_10, if_pos rfl, (a3.2.1 192 (by omega)).2, emB_2, if_pos rfl, (a3.2.1 193 (by omega)).1, emB_3, if_pos rfl]
          exact ⟨own, chi by_ n T i, o30, T3, rfl, rfl, by rw [if_pos rfl], fun e => absurd rfl e⟩
      · rw [a7, emB_f (by omega) (by omega)]
    · have T1 : ¬ gi B 181 6 = 0 ∧ ¬ gi B 181 6 = 1 := by
        rcases tok h with t | t | t | t | ⟨w, t⟩ | ⟨b', t⟩
        · rw [t.2.2]; decide
        · rw [t.2.2]; decide
        · omega
        · omega
        · rw [t.2.2.2.1]; decide
        · rw [t.2.2.2.2.1]; decide
      obtain ⟨A4, B4, x1, x2, x3, x4, x5⟩ := stop h (by omega)
      rw [if_pos T1.1, if_pos T1.2, take_n h (b := 2) (x := 2) rfl (by omega) k2, x1, x2, bS, bS, bS]; dsimp only
      rw [if_pos rfl, bS]
      exact ⟨A4, B4, rfl, rfl, x3, x4, Or.inl (x5.mono (by omega))⟩
theorem lk_cop {A B : Mem} {i c r : Nat} (h : R by_ n T own wd i c r A B) (hc : c ≤ pfN by_ n i + 60) (hr2 : r ≤ pfN by_ n i + 60) :
    LkP by_ n T own wd (true, 0) 1 1002 i c r A B (S_X4_readConstantOperand A) (S_X11_plainPart B) := by
  have kl := kap_lt h
  rw [show S_X4_readConstantOperand A = (S_X4_takeMinus A).bind fun w2 => cpC w2.1 w2.2 from rfl, show S_X11_plainPart B = (S_X11_takes (45 : Int32) B).bind fun w2 => cpR w2.1 w2.2 from rfl]
  unfold S_X4_takeMinus
  rw [kind_eq h, bS]; dsimp only
  by_cases k45 : kap by_ n T wd i = 45
  · obtain ⟨B1, s1, s2, s3, s4⟩ := takes_y h (b := 45) (x := 45) rfl (by omega) (by omega) k45
    have p9 := s2.p9
    rw [k45, if_pos (show ni 45 = (45 : Int32) from rfl), bS, s1, bS]; dsimp only
    obtain ⟨A2, B2, u1, u2, u3, u4, u5⟩ := lk_cpart 1 s2 (by omega) (by omega)
    rw [u1, u2]
    unfold SJ_X4_readConstantOperand_39 SJ_X11_plainPart_105
    rw [if_neg (show ¬ (1 : Int32) = 0 by decide), if_neg (show ¬ (1 : Int32) = 0 by decide)]
    have fC := (frC_7 (A := A) (j := 2) (x := gi A 7 2 + 1) (by omega)).trans u3
    have fB := s3.fr.trans u4
    rcases u5 with u5 | ⟨i2, m, o1, o2, o3, o4, o5⟩
    · obtain ⟨x, A3, e1, e2, e3⟩ := u5.emC (o := 5) (a := 0)
      obtain ⟨B3, y1, y2, y3, _⟩ := e3.emR (by omega) (w := 8) (v := 0) (z := -1)
      rw [e1, y1, bS, bS]
      exact ⟨A3, B3, rfl, rfl, fC.trans e2, fB.trans y2, Or.inl y3⟩
    · have z9 := o1.p9
      obtain ⟨e1, e2, e3⟩ := lk_em (o := 5) (a := 0) (w := 8) (v := 0) (z := -1) o1 (by omega) (by omega)
      rw [e1, e2, bS, bS]
      refine ⟨_, _, rfl, rfl, fC.trans emA_fr, fB.trans emB_fr, Or.inr ⟨i2, m + 1, e3, ((kb_adv s3).trans o2 (Nat.le_refl _) (Nat.le_refl _)).trans kb_em (by omega) (by omega), by omega, ?_, ?_⟩⟩
      · refine ef_neg (o4.kb kb_em (Nat.le_refl _) (Nat.le_refl _)) ?_ ?_
        · rw [emA_9, if_pos rfl]
        · rw [emB_1, if_pos rfl]
      · rw [emB_f (by omega) (by omega), o5]; exact s3.2.2.1 31 (by omega)
  · rw [if_neg (ni_nn (b := 45) (x := 45) rfl (by omega) (by omega) k45), bS, takes_n h (b := 45) (x := 45) rfl (by omega) (by omega) k45, bS]; dsimp only
    obtain ⟨A2, B2, u1, u2, u3, u4, u5⟩ := lk_cpart 0 h hc hr2
    rw [u1, u2]
    unfold SJ_X4_readConstantOperand_39 SJ_X11_plainPart_105
    rw [if_pos rfl, if_pos rfl]
    refine ⟨A2, B2, rfl, rfl, u3, u4, ?_⟩
    rcases u5 with u5 | u5
    · exact Or.inl (u5.mono (by omega))
    · exact Or.inr u5
theorem lk_cprodlp {k : Int32 → Int32 → Mem → Option (Unit × Mem)} {x y : Int32} {c r : Nat} : ∀ {g τ F F' i m : Nat} {A B : Mem}, R by_ n T own wd i (c + m) (r + m) A B → τ ≤ pfN by_ n i → n ≤ pfN by_ n i + g → g < F → g < F' → c + m ≤ pfN by_ n i + 60 → r + m ≤ pfN by_ n i + 60 → EF (true, 0) own c r m 2 A B →
    ∃ A' B', SJ_X4_readConstantSum_17 k F x y (ni τ) A = SJ_X4_readConstantSum_64 k x y A' ∧ SJ_X11_plainProduct_4 F' B = some ((), B') ∧ FrC A A' ∧ FrB B B' ∧ (Bk by_ n T own wd 1003 A' B' ∨ OkL by_ n T own wd (true, 0) 2 i c r m A B A' B') := by
  intro g
  induction g with
  | zero =>
    intro τ F F' i m A B h hτ hg hF hF' hc hr2 hE
    obtain ⟨F, rfl⟩ : ∃ g, F = g + 1 := ⟨F - 1, by omega⟩
    obtain ⟨F', rfl⟩ : ∃ g, F' = g + 1 := ⟨F' - 1, by omega⟩
    have hk : kap by_ n T wd i = 0 := by
      rcases tok h with t | t | t | t | ⟨w, t⟩ | ⟨b', t⟩
      · exact t.1
      · have := (h.1.pf t.2.1).1; omega
      · have := (h.1.pf t.2.1).1; omega
      · have := (h.1.pf t.2.1).1; omega
      · have := (h.1.pf t.2.2.1).1; omega
      · have := (h.1.pf t.2.2.2.1).1; omega
    refine ⟨A, B, ?_, ?_, FrC.rf, FrB.rf, Or.inr ⟨i, m, h, Nat.le_refl _, Kb.rf, Nat.le_refl _, hE, rfl⟩⟩
    · rw [SJ_X4_readConstantSum_17]; dsimp only
      rw [kind_eq h, bS]; dsimp only
      rw [hk, if_pos (show ¬ ni 0 = 42 by decide), ite_self]
    · rw [SJ_X11_plainProduct_4]; dsimp only
      rw [takes_n h (b := 42) (x := 42) rfl (by omega) (by omega) (by omega), bS]; dsimp only
      rw [if_pos rfl]
  | succ g ih =>
    intro τ F F' i m A B h hτ hg hF hF' hc hr2 hE
    obtain ⟨F, rfl⟩ : ∃ g, F = g + 1 := ⟨F - 1, by omega⟩
    obtain ⟨F', rfl⟩ : ∃ g, F' = g + 1 := ⟨F' - 1, by omega⟩
    have p9 := h.p9
    have kl := kap_lt h
    rw [SJ_X4_readConstantSum_17, SJ_X11_plainProduct_4]; dsimp only
    rw [kind_eq h, bS]; dsimp only
    by_cases hk : kap by_ n T wd i = 42
    · obtain ⟨B1, s1, s2, s3, s4⟩ := takes_y h (b := 42) (x := 42) rfl (by omega) (by omega) hk
      have q9 := s2.p9
      have hi := (h.1.pf (kap_T h (by omega))).1
      have n9 := h.1.n9
      rw [if_neg (show ¬ (900 : Int32) < ni τ from fun e => by have := (ni_lt (a := 900) (by omega) (by omega)).mp e; omega), hk, if_neg (show ¬ ¬ ni 42 = (42 : Int32) by simp; rfl), s1, bS]; dsimp only
      rw [if_neg (show ¬ (1 : Int32) = 0 by decide)]
      obtain ⟨A2, B2, u1, u2, u3, u4, u5⟩ := lk_cop s2 (by omega) (by omega)
      rw [u1, u2, bS, bS]; dsimp only
      have fC := (frC_7 (A := A) (j := 2) (x := gi A 7 2 + 1) (by omega)).trans u3
      have fB := s3.fr.trans u4
      rcases u5 with u5 | ⟨i2, m2, o1, o2, o3, o4, o5⟩
      · obtain ⟨x, A3, e1, e2, e3⟩ := u5.emC (o := 8) (a := 0)
        obtain ⟨B3, y1, y2, y3, _⟩ := e3.emR (by omega) (w := 42) (v := 0) (z := -1)
        obtain ⟨F, rfl⟩ : ∃ g, F = g + 1 := ⟨F - 1, by omega⟩
        obtain ⟨F', rfl⟩ : ∃ g, F' = g + 1 := ⟨F' - 1, by omega⟩
        rw [e1, y1, bS, bS]; dsimp only
        rw [bk_cs17 y3.2.1, wr_pprodlp y3.2.2.1]
        exact ⟨A3, B3, rfl, rfl, fC.trans e2, fB.trans y2, Or.inl y3⟩
      · have z9 := o1.p9
        obtain ⟨e1, e2, e3⟩ := lk_em (o := 8) (a := 0) (w := 42) (v := 0) (z := -1) o1 (by omega) (by omega)
        rw [e1, e2, bS, bS, show ni τ + 1 = ni (τ + 1) from ni_add τ 1]; dsimp only
        have e3' : R by_ n T own wd i2 (c + (m + m2 + 1)) (r + (m + m2 + 1)) (emA A2 (c + m + m2) 8 0) (emB B2 (r + m + m2) 42 0 (-1)) := by
          rw [show c + (m + m2 + 1) = c + m + m2 + 1 by omega, show r + (m + m2 + 1) = r + m + m2 + 1 by omega]; exact e3
        have k1 : Kb (c + m) (r + m) A B A2 B2 := (kb_adv s3).trans o2 (Nat.le_refl _) (Nat.le_refl _)
        have E : EF (true, 0) own c r (m + m2 + 1) 2 (emA A2 (c + m + m2) 8 0) (emB B2 (r + m + m2) 42 0 (-1)) := by
          refine ef_bin (g := 1) ((hE.kb k1 (Nat.le_refl _) (Nat.le_refl _)).kb kb_em (by omega) (by omega)) (o4.kb kb_em (Nat.le_refl _) (Nat.le_refl _)) (by omega) ?_
          rw [emA_9, if_pos rfl, emB_1, if_pos rfl]; exact Or.inr (Or.inr (Or.inl ⟨rfl, rfl⟩))
        obtain ⟨A4, B4, x1, x2, x3, x4, x5⟩ := ih (τ := τ + 1) (F := F) (F' := F') e3' (by omega) (by omega) (by omega) (by omega) (by omega) (by omega) E
        refine ⟨A4, B4, x1, x2, (fC.trans emA_fr).trans x3, (fB.trans emB_fr).trans x4, ?_⟩
        rcases x5 with x5 | ⟨i5, m5, z1, z2, z3, z4, z5, z6⟩
        · exact Or.inl x5
        · refine Or.inr ⟨i5, m5, z1, by omega, ?_, by omega, z5, ?_⟩
          · exact Kb.tr' (k1.trans kb_em (by omega) (by omega)) z3 (by omega) (by omega)
          · rw [z6, emB_f (by omega) (by omega), o5, s3.2.2.1 31 (by omega)]
    · refine ⟨A, B, ?_, ?_, FrC.rf, FrB.rf, Or.inr ⟨i, m, h, Nat.le_refl _, Kb.rf, Nat.le_refl _, hE, rfl⟩⟩
      · rw [if_pos (ni_nn (b := 42) (x := 42) rfl (by omega) (by omega) hk), ite_self]
      · rw [takes_n h (b := 42) (x := 42) rfl (by omega) (by omega) hk, bS]; dsimp only
        rw [if_pos rfl]
/-- a product of a const's sum -/
theorem lk_cprod {k : Int32 → Int32 → Mem → Option (Unit × Mem)} {x y : Int32} {A B : Mem} {i c r : Nat} (h : R by_ n T own wd i c r A B) (hc : c ≤ pfN by_ n i + 60) (hr2 : r ≤ pfN by_ n i + 60) :
    ∃ A' B', ((S_X4_readConstantOperand A).bind fun w8 => SJ_X4_readConstantSum_17 k FU x y (0 : Int32) w8.2) = SJ_X4_readConstantSum_64 k x y A' ∧ S_X11_plainProduct B = some ((), B') ∧ FrC A A' ∧ FrB B B' ∧ (Bk by_ n T own wd 1003 A' B' ∨ OkP by_ n T own wd (true, 0) 2 i c r A B A' B') := by
  obtain ⟨A1, B1, u1, u2, u3, u4, u5⟩ := lk_cop h hc hr2
  have n9 := h.1.n9
  unfold S_X11_plainProduct
  rw [u1, u2, bS, bS]; dsimp only
  rcases u5 with u5 | ⟨i1, m, o1, o2, o3, o4, o5⟩
  · rw [show FU = 3999999 + 1 from rfl, bk_cs17 u5.2.1, wr_pprodlp u5.2.2.1]
    exact ⟨A1, B1, rfl, rfl, u3, u4, Or.inl (u5.mono (by omega))⟩
  · obtain ⟨A2, B2, x1, x2, x3, x4, x5⟩ := lk_cprodlp (k := k) (x := x) (y := y) (g := 1000) (τ := 0) (F := FU) (F' := FU) o1 (by omega) (by omega) (by decide) (by decide) (by omega) (by omega) (o4.mono (by omega))
    refine ⟨A2, B2, x1, x2, u3.trans x3, u4.trans x4, ?_⟩
    rcases x5 with x5 | ⟨i5, m5, z1, z2, z3, z4, z5, z6⟩
    · exact Or.inl x5
    · exact Or.inr ⟨i5, m5, z1, o2.trans z3 (Nat.le_refl _) (Nat.le_refl _), by omega, z5, z6.trans o5⟩
theorem lk_csumlp {c r : Nat} : ∀ {g τ F F' i m : Nat} {A B : Mem}, R by_ n T own wd i (c + m) (r + m) A B → τ ≤ pfN by_ n i → n ≤ pfN by_ n i + g → g < F → g < F' → c + m ≤ pfN by_ n i + 60 → r + m ≤ pfN by_ n i + 60 → EF (true, 0) own c r m 3 A B →
    ∃ A' B', SJ_X4_readConstantSum_79 (SJ_X4_readConstantSum_4 F) (ni τ) A = some ((), A') ∧ SJ_X11_plainSum_4 F' B = SJ_X11_plainSum_57 B' ∧ FrC A A' ∧ FrB B B' ∧ (Bk by_ n T own wd 1004 A' B' ∨ OkL by_ n T own wd (true, 0) 3 i c r m A B A' B') := by
  intro g
  induction g with
  | zero =>
    intro τ F F' i m A B h hτ hg hF hF' hc hr2 hE
    obtain ⟨F', rfl⟩ : ∃ g, F' = g + 1 := ⟨F' - 1, by omega⟩
    have hk : kap by_ n T wd i = 0 := by
      rcases tok h with t | t | t | t | ⟨w, t⟩ | ⟨b', t⟩
      · exact t.1
      · have := (h.1.pf t.2.1).1; omega
      · have := (h.1.pf t.2.1).1; omega
      · have := (h.1.pf t.2.1).1; omega
      · have := (h.1.pf t.2.2.1).1; omega
      · have := (h.1.pf t.2.2.2.1).1; omega
    refine ⟨A, B, ?_, ?_, FrC.rf, FrB.rf, Or.inr ⟨i, m, h, Nat.le_refl _, Kb.rf, Nat.le_refl _, hE, rfl⟩⟩
    · unfold SJ_X4_readConstantSum_79
      rw [kind_eq h, bS]; dsimp only
      rw [hk, if_neg (show ¬ ni 0 = 43 by decide), kind_eq h, bS]; dsimp only
      rw [hk, if_neg (show ¬ ni 0 = 45 by decide)]
    · rw [SJ_X11_plainSum_4]; dsimp only
      rw [h.2.2.2.2.1, if_neg (by simp), isSign_n h (b := 43) (x := 43) rfl (by omega) (by omega) (by omega), bS]; dsimp only
      rw [if_neg (show ¬ ¬ (0 : Int32) = 0 by simp), isSign_n h (b := 45) (x := 45) rfl (by omega) (by omega) (by omega), bS]; dsimp only
      rw [if_pos rfl]
  | succ g ih =>
    intro τ F F' i m A B h hτ hg hF hF' hc hr2 hE
    obtain ⟨F, rfl⟩ : ∃ g, F = g + 1 := ⟨F - 1, by omega⟩
    obtain ⟨F', rfl⟩ : ∃ g, F' = g + 1 := ⟨F' - 1, by omega⟩
    have p9 := h.p9
    have kl := kap_lt h
    by_cases hk : kap by_ n T wd i = 43 ∨ kap by_ n T wd i = 45
    · obtain ⟨B1, a1, a2, a3, a4, a5, a6, a7, a8⟩ := adv' h (by omega)
      have hi := (h.1.pf (kap_T h (by omega))).1
      have n9 := h.1.n9
      have q9 := a2.p9
      obtain ⟨op, hop0, hop1, eC⟩ : ∃ op, ¬ op = -1 ∧ Bop true op (ni (kap by_ n T wd i)) ∧ SJ_X4_readConstantSum_79 (SJ_X4_readConstantSum_4 (F + 1)) (ni τ) A = SJ_X4_readConstantSum_4 (F + 1) op (ni (τ + 1)) (si A 7 2 (gi A 7 2 + 1)) := by
        rcases hk with k | k
        · refine ⟨6, by decide, by rw [k]; exact Or.inl ⟨rfl, rfl⟩, ?_⟩
          unfold SJ_X4_readConstantSum_79 SJ_X4_readConstantSum_98 SJ_X4_readConstantSum_114
          rw [kind_eq h, bS]; dsimp only
          rw [k, if_pos (show ni 43 = (43 : Int32) from rfl), kind_eq h, bS]; dsimp only
          rw [k, if_neg (show ¬ ¬ ni 43 = (43 : Int32) by simp; rfl), show ni τ + 1 = ni (τ + 1) from ni_add τ 1]
        · refine ⟨7, by decide, by rw [k]; exact Or.inr (Or.inl ⟨rfl, rfl⟩), ?_⟩
          unfold SJ_X4_readConstantSum_79 SJ_X4_readConstantSum_98 SJ_X4_readConstantSum_114
          rw [kind_eq h, bS]; dsimp only
          rw [k, if_neg (show ¬ ni 45 = (43 : Int32) by decide), kind_eq h, bS]; dsimp only
          rw [k, if_pos (show ni 45 = (45 : Int32) from rfl), kind_eq h, bS]; dsimp only
          rw [k, if_pos (show ¬ ni 45 = (43 : Int32) by decide), show ni τ + 1 = ni (τ + 1) from ni_add τ 1]
      obtain ⟨A2, B2, u1, u2, u3, u4, u5⟩ := lk_cprod (k := SJ_X4_readConstantSum_4 F) (x := op) (y := ni (τ + 1)) a2 (by omega) (by omega)
      have eC2 : SJ_X4_readConstantSum_4 (F + 1) op (ni (τ + 1)) (si A 7 2 (gi A 7 2 + 1)) = (S_X0_emit op 0 A2).bind fun w4 => SJ_X4_readConstantSum_79 (SJ_X4_readConstantSum_4 F) (ni (τ + 1)) w4.2 := by
        rw [SJ_X4_readConstantSum_4]; dsimp only
        rw [if_neg (show ¬ (900 : Int32) < ni (τ + 1) from fun e => by have := (ni_lt (a := 900) (by omega) (by omega)).mp e; omega), u1]
        unfold SJ_X4_readConstantSum_64
        rw [if_neg hop0]
      have eR : SJ_X11_plainSum_4 (F' + 1) B = (S_X11_emit (ni (kap by_ n T wd i)) 0 (-1) B2).bind fun w3 => SJ_X11_plainSum_4 F' w3.2 := by
        have e38 : SJ_X11_plainSum_29 (SJ_X11_plainSum_4 F') B = (S_X11_emit (ni (kap by_ n T wd i)) 0 (-1) B2).bind fun w3 => SJ_X11_plainSum_4 F' w3.2 := by
          rw [show SJ_X11_plainSum_29 (SJ_X11_plainSum_4 F') B = _ from signByte h (by omega) (by omega) (f := fun x => (S_X11_advance B).bind fun w1 => (S_X11_plainProduct w1.2).bind fun w2 => (S_X11_emit x 0 (-1) w2.2).bind fun w3 => SJ_X11_plainSum_4 F' w3.2)]
          rw [a1, bS]; dsimp only
          rw [u2, bS]
        rw [SJ_X11_plainSum_4]; dsimp only
        rw [h.2.2.2.2.1, if_neg (by simp), show (43 : Int32) = ni 43 from rfl, isSign_eq h (by omega) (by omega), bS]; dsimp only
        by_cases k42 : kap by_ n T wd i = 43
        · rw [if_pos k42, if_pos (by decide)]; exact e38
        · rw [if_neg k42, if_neg (by simp), isSign_y h (b := 45) (x := 45) rfl (by omega) (by omega) (by omega), bS]; dsimp only
          rw [if_neg (show ¬ (1 : Int32) = 0 by decide)]; exact e38
      rw [eC, eC2, eR]
      rcases u5 with u5 | ⟨i2, m2, o1, o2, o3, o4, o5⟩
      · obtain ⟨x, A3, e1, e2, e3⟩ := u5.emC (o := op) (a := 0)
        obtain ⟨B3, y1, y2, y3, _⟩ := e3.emR (by omega) (w := ni (kap by_ n T wd i)) (v := 0) (z := -1)
        obtain ⟨F', rfl⟩ : ∃ g, F' = g + 1 := ⟨F' - 1, by omega⟩
        rw [e1, y1, bS, bS]; dsimp only
        rw [bk_cs79 y3.2.1, wr_psumlp y3.2.2.1]
        exact ⟨A3, B3, rfl, rfl, (a4.trans u3).trans e2, (a5.trans u4).trans y2, Or.inl y3⟩
      · have z9 := o1.p9
        obtain ⟨e1, e2, e3⟩ := lk_em (o := op) (a := 0) (w := ni (kap by_ n T wd i)) (v := 0) (z := -1) o1 (by omega) (by omega)
        rw [e1, e2, bS, bS]; dsimp only
        have e3' : R by_ n T own wd i2 (c + (m + m2 + 1)) (r + (m + m2 + 1)) (emA A2 (c + m + m2) op 0) (emB B2 (r + m + m2) (ni (kap by_ n T wd i)) 0 (-1)) := by
          rw [show c + (m + m2 + 1) = c + m + m2 + 1 by omega, show r + (m + m2 + 1) = r + m + m2 + 1 by omega]; exact e3
        have k1 : Kb (c + m) (r + m) A B A2 B2 := a6.trans o2 (Nat.le_refl _) (Nat.le_refl _)
        have E : EF (true, 0) own c r (m + m2 + 1) 3 (emA A2 (c + m + m2) op 0) (emB B2 (r + m + m2) (ni (kap by_ n T wd i)) 0 (-1)) := by
          refine ef_bin (g := 2) ((hE.kb k1 (Nat.le_refl _) (Nat.le_refl _)).kb kb_em (by omega) (by omega)) (o4.kb kb_em (Nat.le_refl _) (Nat.le_refl _)) (by omega) ?_
          rw [emA_9, if_pos rfl, emB_1, if_pos rfl]; exact hop1
        obtain ⟨A4, B4, x1, x2, x3, x4, x5⟩ := ih (τ := τ + 1) (F := F) (F' := F') e3' (by omega) (by omega) (by omega) (by omega) (by omega) (by omega) E
        refine ⟨A4, B4, x1, x2, ((a4.trans u3).trans emA_fr).trans x3, ((a5.trans u4).trans emB_fr).trans x4, ?_⟩
        rcases x5 with x5 | ⟨i5, m5, z1, z2, z3, z4, z5, z6⟩
        · exact Or.inl x5
        · refine Or.inr ⟨i5, m5, z1, by omega, ?_, by omega, z5, ?_⟩
          · exact Kb.tr' (k1.trans kb_em (by omega) (by omega)) z3 (by omega) (by omega)
          · rw [z6, emB_f (by omega) (by omega), o5, a7]
    · refine ⟨A, B, ?_, ?_, FrC.rf, FrB.rf, Or.inr ⟨i, m, h, Nat.le_refl _, Kb.rf, Nat.le_refl _, hE, rfl⟩⟩
      · unfold SJ_X4_readConstantSum_79
        rw [kind_eq h, bS]; dsimp only
        rw [if_neg (ni_nn (b := 43) (x := 43) rfl (by omega) (by omega) (by omega)), kind_eq h, bS]; dsimp only
        rw [if_neg (ni_nn (b := 45) (x := 45) rfl (by omega) (by omega) (by omega))]
      · rw [SJ_X11_plainSum_4]; dsimp only
        rw [h.2.2.2.2.1, if_neg (by simp), isSign_n h (b := 43) (x := 43) rfl (by omega) (by omega) (by omega), bS]; dsimp only
        rw [if_neg (show ¬ ¬ (0 : Int32) = 0 by simp), isSign_n h (b := 45) (x := 45) rfl (by omega) (by omega) (by omega), bS]; dsimp only
        rw [if_pos rfl]
theorem cs4 {F : Nat} {x y : Int32} {A : Mem} : SJ_X4_readConstantSum_4 (F + 1) x y A = if (900 : Int32) < y then some ((), A) else (S_X4_readConstantOperand A).bind fun w8 => SJ_X4_readConstantSum_17 (SJ_X4_readConstantSum_4 F) FU x y (0 : Int32) w8.2 := by rw [SJ_X4_readConstantSum_4]
/-- the sum of a const; the reference writes an end behind it -/
theorem lk_csum {A B : Mem} {i c r : Nat} (h : R by_ n T own wd i c r A B) (hc : c ≤ pfN by_ n i + 60) (hr2 : r ≤ pfN by_ n i + 60) :
    ∃ A' B', S_X4_readConstantSum A = some ((), A') ∧ S_X11_plainSum B = SJ_X11_plainSum_57 B' ∧ FrC A A' ∧ FrB B B' ∧ (Bk by_ n T own wd 1004 A' B' ∨ OkP by_ n T own wd (true, 0) 3 i c r A B A' B') := by
  have n9 := h.1.n9
  obtain ⟨A1, B1, u1, u2, u3, u4, u5⟩ := lk_cprod (k := SJ_X4_readConstantSum_4 3999999) (x := -1) (y := 0) h hc hr2
  unfold S_X4_readConstantSum S_X11_plainSum
  rw [u2, bS]; dsimp only
  have eC : SJ_X4_readConstantSum_4 FU (-1) 0 A = SJ_X4_readConstantSum_79 (SJ_X4_readConstantSum_4 3999999) 0 A1 := by
    have e0 : SJ_X4_readConstantSum_4 FU (-1) 0 A = _ := cs4 (F := 3999999)
    rw [e0, if_neg (by decide), u1]
    unfold SJ_X4_readConstantSum_64
    rw [if_pos rfl]
  rw [eC]
  rcases u5 with u5 | ⟨i1, m, o1, o2, o3, o4, o5⟩
  · rw [bk_cs79 u5.2.1, show FU = 3999999 + 1 from rfl, wr_psumlp u5.2.2.1]
    exact ⟨A1, B1, rfl, rfl, u3, u4, Or.inl (u5.mono (by omega))⟩
  · obtain ⟨A2, B2, x1, x2, x3, x4, x5⟩ := lk_csumlp (g := 1000) (τ := 0) (F := 3999999) (F' := FU) o1 (by omega) (by omega) (by decide) (by decide) (by omega) (by omega) (o4.mono (by omega))
    refine ⟨A2, B2, x1, x2, u3.trans x3, u4.trans x4, ?_⟩
    rcases x5 with x5 | ⟨i5, m5, z1, z2, z3, z4, z5, z6⟩
    · exact Or.inl x5
    · exact Or.inr ⟨i5, m5, z1, o2.trans z3 (Nat.le_refl _) (Nat.le_refl _), by omega, z5, z6.trans o5⟩
end Cs

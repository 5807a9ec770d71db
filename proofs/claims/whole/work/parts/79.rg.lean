-- needs: 74.sclsb 75.num 76.rel 77.cong 78.sim 79.qa 79.qb 79.ra 79.rb 79.rc 79.rd 79.re 79.rf
-- ===== operands =====
section Op
variable {by_ : Nat → Nat} {n T own : Nat} {wd : Nat → Int64} {qq : Nat} {v b : Nat} {rC : Int32 → Mem → Option (Unit × Mem)} {rR : Mem → Option (Unit × Mem)}
theorem adv' {A B : Mem} {i c r : Nat} (h : R by_ n T own wd i c r A B) (hk : kap by_ n T wd i ≠ 0) : ∃ B', S_X11_advance B = some ((), B') ∧ R by_ n T own wd (i + 1) c r (si A 7 2 (gi A 7 2 + 1)) B' ∧ Ad B B' ∧ FrC A (si A 7 2 (gi A 7 2 + 1)) ∧ FrB B B' ∧ Kb c r A B (si A 7 2 (gi A 7 2 + 1)) B' ∧ gi B' 181 31 = gi B 181 31 ∧ pfN by_ n i + 1 ≤ pfN by_ n (i + 1) := by
  obtain ⟨B', r1, r2, r3, r4⟩ := adv h hk
  exact ⟨B', r1, r2, r3, frC_7 (by omega), r3.fr, kb_adv r3, r3.2.2.1 31 (by omega), r4⟩
/-- a name, of a const or of a table -/
theorem lk_ref (hr : Rec by_ n T own wd qq (v + 1) b rC rR) {A B : Mem} {i c r Y : Nat} (h : R by_ n T own wd i c r A B) (h31 : gi B 181 31 = ni v) (hcq : CxQ qq A) (hv : v ≤ 12) (hc : c ≤ pfN by_ n i + 60) (hr2 : r ≤ pfN by_ n i + 60) (hb : 1000 ≤ b) (hb2 : b < 1900) (hY : Y < 30) (hl : Y ≠ own → bt (gi A 8 1) Y = true) :
    ∃ A' B', S_X4_readReference rC (ni Y) (ni v) A = some ((), A') ∧ ((S_X11_takesName B).bind fun w => (S_X11_called rR w.1 (if Y = own then -1 else ni Y) w.2)) = some ((), B') ∧ FrC A A' ∧ FrB B B' ∧ (Bk by_ n T own wd (b + 1) A' B' ∨ OkP by_ n T own wd (false, qq) (1 + 3 * (12 - v)) i c r A B A' B') := by
  have p9 := h.p9
  have kl := kap_lt h
  unfold S_X4_readReference S_X11_takesName SJ_X11_takesName_14
  rw [content_eq h, bS, h.2.2.2.2.1, if_neg (by simp)]; dsimp only
  by_cases hk : kap by_ n T wd i = 2
  · have tk : gi B 181 6 = 0 ∧ gl B 181 8 = nl (chi by_ n T i) ∧ chi by_ n T i < 1099511627776 := by
      rcases tok h with t | t | t | t | ⟨w, t⟩ | ⟨b', t⟩
      · omega
      · omega
      · exact t.2.2
      · omega
      · omega
      · omega
    obtain ⟨t1, t2, t3⟩ := tk
    obtain ⟨B1, a1, a2, a3, a4, a5, a6, a7, a8⟩ := adv' h (by omega)
    rw [take_y h (b := 2) (x := 2) rfl hk, bS, if_pos t1, a1, bS, bS]; dsimp only
    rw [if_pos (show ¬ (1 : Int32) = 0 by decide), kind_eq a2, bS, t2]; dsimp only
    have q9 := a2.p9
    have kl2 := kap_lt a2
    unfold S_X11_called
    by_cases hk2 : kap by_ n T wd (i + 1) = 91
    · obtain ⟨B2, s1, s2, s3, s4⟩ := takes_y a2 (b := 91) (x := 91) rfl (by omega) (by omega) hk2
      rw [hk2, if_pos (show ni 91 = (91 : Int32) from rfl), s1, bS]; dsimp only
      rw [if_neg (show ¬ (1 : Int32) = 0 by decide), show ni v + 1 = ni (v + 1) from ni_add v 1]
      have f2 : gi B2 181 31 = ni v := (s3.2.2.1 31 (by omega)).trans (a7.trans h31)
      obtain ⟨A3, B3, u1, u2, u3, u4, u5⟩ := hr.1 (i + 1 + 1) c r _ B2 s2 (by rw [f2]; rfl) ((a4.trans (frC_7 (A := si A 7 2 (gi A 7 2 + 1)) (j := 2) (x := gi (si A 7 2 (gi A 7 2 + 1)) 7 2 + 1) (by omega))).cx hcq) (by omega) (by omega)
      rw [u1, u2, bS, bS]; dsimp only
      have fC := (a4.trans (frC_7 (A := si A 7 2 (gi A 7 2 + 1)) (j := 2) (x := gi (si A 7 2 (gi A 7 2 + 1)) 7 2 + 1) (by omega))).trans u3
      have fB := (a5.trans s3.fr).trans u4
      rcases u5 with u5 | ⟨v12, i3, m, o1, o2, o3, o4, o5⟩
      · rw [bk_take u5.2.1 (by decide), wr_must u5.2.2.1, bS, bS]; dsimp only
        unfold S_X0_emitReference
        obtain ⟨x, A4, x1, x2, x3⟩ := u5.emC (o := 4) (a := ((ni Y).toInt64 <<< ((40 : Int32).toInt64 &&& 63)) ||| nl (chi by_ n T i))
        obtain ⟨B4, y1, y2, y3, _⟩ := x3.emR (by omega) (w := 7) (v := nl (chi by_ n T i)) (z := if Y = own then -1 else ni Y)
        rw [x1, y1, bS, bS, bS]
        exact ⟨A4, B4, rfl, rfl, fC.trans x2, fB.trans y2, Or.inl y3⟩
      · have z9 := o1.p9
        obtain ⟨x, A4, B4, x1, x2, x3, x4, x5⟩ := lk_take o1 (by omega) (b := 93) (x := 93) rfl (by omega) (by omega)
        rw [x1, x2, bS, bS]; dsimp only
        unfold S_X0_emitReference
        rcases x5 with x5 | ⟨x5, x6, x7, x8, x9⟩
        · have x5 := x5.mono (show r + m ≤ b by omega)
          obtain ⟨x, A5, e1, e2, e3⟩ := x5.emC (o := 4) (a := ((ni Y).toInt64 <<< ((40 : Int32).toInt64 &&& 63)) ||| nl (chi by_ n T i))
          obtain ⟨B5, y1, y2, y3, _⟩ := e3.emR (by omega) (w := 7) (v := nl (chi by_ n T i)) (z := if Y = own then -1 else ni Y)
          rw [e1, y1, bS, bS, bS]
          exact ⟨A5, B5, rfl, rfl, (fC.trans x3).trans e2, (fB.trans x4).trans y2, Or.inl y3⟩
        · rw [packRef hY t3]
          obtain ⟨e1, e2, e3⟩ := lk_em (o := 4) (a := nl (Y * 1099511627776 + chi by_ n T i)) (w := 7) (v := nl (chi by_ n T i)) (z := if Y = own then -1 else ni Y) x8 (by omega) (by omega)
          rw [e1, e2, bS, bS, bS]
          have k1 : Kb c r A B A4 B4 := ((a6.trans (kb_adv s3) (Nat.le_refl _) (Nat.le_refl _)).trans o2 (Nat.le_refl _) (Nat.le_refl _)).trans (by rw [x6]; exact kb_adv x7) (Nat.le_refl _) (Nat.le_refl _)
          have k2 : Kb (c + m) (r + m) A3 B3 A4 B4 := by rw [x6]; exact kb_adv x7
          refine ⟨_, _, rfl, rfl, (fC.trans x3).trans emA_fr, (fB.trans x4).trans emB_fr, Or.inr ⟨i3 + 1, m + 1, e3, k1.trans kb_em (by omega) (by omega), by omega, ?_, ?_⟩⟩
          · refine ef_tab rfl ((((o4.kb k2 (Nat.le_refl _) (Nat.le_refl _)).kb kb_em (Nat.le_refl _) (Nat.le_refl _))).mono (by omega)) ?_ ?_ ?_
            · rw [emA_9, if_pos rfl]
            · rw [emB_1, if_pos rfl]
            · rw [emA_10, if_pos rfl, emB_2, if_pos rfl, emB_3, if_pos rfl, emA_f (by omega) (by omega)]
              exact ⟨Y, chi by_ n T i, hY, t3, rfl, rfl, rfl, fun e => k1.2.2.1 Y (hl e)⟩
          · rw [emB_f (by omega) (by omega), x7.2.2.1 31 (by omega), o5, f2, h31]
    · rw [if_neg (ni_nn (b := 91) (x := 91) rfl (by omega) (by omega) hk2), takes_n a2 (b := 91) (x := 91) rfl (by omega) (by omega) hk2, bS]; dsimp only
      rw [if_pos rfl]
      unfold S_X0_emitReference
      rw [packRef hY t3]
      obtain ⟨e1, e2, e3⟩ := lk_em (o := 3) (a := nl (Y * 1099511627776 + chi by_ n T i)) (w := 6) (v := nl (chi by_ n T i)) (z := if Y = own then -1 else ni Y) a2 (by omega) (by omega)
      rw [e1, e2, bS, bS, bS]
      refine ⟨_, _, rfl, rfl, a4.trans emA_fr, a5.trans emB_fr, Or.inr ⟨i + 1, 1, e3, a6.trans kb_em (Nat.le_refl _) (Nat.le_refl _), a8, ?_, ?_⟩⟩
      · refine ef_ref (by omega) ?_ ?_ ?_
        · rw [emA_9, if_pos rfl]
        · rw [emB_1, if_pos rfl]
        · rw [emA_10, if_pos rfl, emB_2, if_pos rfl, emB_3, if_pos rfl, emA_f (by omega) (by omega)]
          exact ⟨Y, chi by_ n T i, hY, t3, rfl, rfl, rfl, fun e => a6.2.2.1 Y (hl e)⟩
      · rw [emB_f (by omega) (by omega)]; exact a7
  · have t1 : ¬ gi B 181 6 = 0 := by
      rcases tok h with t | t | t | t | ⟨w, t⟩ | ⟨b', t⟩
      · rw [t.2.2]; decide
      · rw [t.2.2]; decide
      · omega
      · rw [t.2.2.1]; decide
      · rw [t.2.2.2.1]; decide
      · rw [t.2.2.2.2.1]; decide
    obtain ⟨A', B', r1, r2, r3, r4, r5⟩ := stop h (by omega)
    have r5 := r5.mono (show r ≤ b by omega)
    obtain ⟨B2, c1, c2, c3⟩ := r5.called (rS := rR) (x := 0) (y := if Y = own then -1 else ni Y) (by omega)
    rw [take_n h (b := 2) (x := 2) rfl (by omega) hk, r1, bS, bS, if_neg t1, r2, bS, bS]; dsimp only
    rw [if_neg (by simp), c1]
    exact ⟨A', B2, rfl, rfl, r3, r4.trans c2, Or.inl c3⟩
/-- an operand without its minus -/
def opC (rS : Int32 → Mem → Option (Unit × Mem)) (v1 mn : Int32) (M : Mem) : Option (Unit × Mem) :=
  (S_X4_kind M).bind fun w4 =>
  if ¬ w4.1 = (3 : Int32) then
  (if ¬ w4.1 = (40 : Int32) then
  (if w4.1 < (307 : Int32) then
  (SJ_X4_readOperand_92 rS v1 mn w4.2)
  else
  (if (311 : Int32) < w4.1 then
  (SJ_X4_readOperand_92 rS v1 mn w4.2)
  else
  ((S_X4_readSetting w4.1 w4.2).bind fun w5 =>
  SJ_X4_readOperand_101 rS mn w5.2)))
  else
  ((rS (v1 + (1 : Int32)) (si w4.2 7 2 ((gi w4.2 7 2) + (1 : Int32)))).bind fun w6 =>
  (S_X4_take (41 : Int32) w6.2).bind fun w7 =>
  SJ_X4_readOperand_101 rS mn w7.2))
  else
  ((S_X4_readNumberOrYear w4.2).bind fun w8 =>
  if w8.1 = (-1 : Int32) then
  (SJ_X4_readOperand_34 rS mn w8.2)
  else
  ((S_X4_readReference rS w8.1 v1 w8.2).bind fun w9 =>
  SJ_X4_readOperand_34 rS mn w9.2))
theorem opC_eq {rS : Int32 → Mem → Option (Unit × Mem)} {v1 : Int32} {M : Mem} : S_X4_readOperand rS v1 M = (S_X4_takeMinus M).bind fun w3 => opC rS v1 w3.1 w3.2 := rfl
theorem lk_atom (hr : Rec by_ n T own wd qq (v + 1) b rC rR) {A B : Mem} {i c r : Nat} (mn : Int32) (h : R by_ n T own wd i c r A B) (h31 : gi B 181 31 = ni v) (hcq : CxQ qq A) (hv : v ≤ 12) (hc : c ≤ pfN by_ n i + 60) (hr2 : r ≤ pfN by_ n i + 60) (hb : 1000 ≤ b) (hb2 : b < 1900) :
    ∃ A' B', opC rC (ni v) mn A = SJ_X4_readOperand_101 rC mn A' ∧ S_X11_atom rR B = some ((), B') ∧ FrC A A' ∧ FrB B B' ∧ (Bk by_ n T own wd (b + 1) A' B' ∨ OkP by_ n T own wd (false, qq) (1 + 3 * (12 - v)) i c r A B A' B') := by
  have p9 := h.p9
  have kl := kap_lt h
  have hA3 : gi A 7 3 = ni own := h.1.2.2.2.2.2.2.2.2.1
  have o30 : own < 30 := h.1.2.2.2.2.2.2.2.2.2.2.1
  unfold opC S_X11_atom
  rw [kind_eq h, bS, h.2.2.2.2.1, if_pos rfl]; dsimp only
  -- what is not an operand, or a name
  have other : kap by_ n T wd i ≠ 3 → kap by_ n T wd i ≠ 40 → (kap by_ n T wd i < 307) → ∃ A' B', SJ_X4_readOperand_92 rC (ni v) mn A = SJ_X4_readOperand_101 rC mn A' ∧ S_X11_atom rR B = some ((), B') ∧ FrC A A' ∧ FrB B B' ∧ (Bk by_ n T own wd (b + 1) A' B' ∨ OkP by_ n T own wd (false, qq) (1 + 3 * (12 - v)) i c r A B A' B') := by
    intro k3 k40 k307
    obtain ⟨A', B', r1, r2, r3, r4, r5⟩ := lk_ref hr h h31 hcq hv hc hr2 hb hb2 o30 (fun e => absurd rfl e)
    by_cases k2 : kap by_ n T wd i = 2
    · refine ⟨A', B', ?_, ?_, r3, r4, r5⟩
      · unfold SJ_X4_readOperand_92; rw [hA3, r1, bS]
      · have t : gi B 181 6 = 0 := by
          rcases tok h with t | t | t | t | ⟨w, t⟩ | ⟨b', t⟩
          · omega
          · omega
          · exact t.2.2.1
          · omega
          · omega
          · omega
        unfold S_X11_atom
        rw [h.2.2.2.2.1, if_pos rfl, t, if_neg (by simp)]
        rw [if_pos rfl] at r2
        cases hq : S_X11_takesName B with
        | none => rw [hq] at r2; cases r2
        | some q => rw [hq, bS] at r2; rw [bS, r2, bS]
    · obtain ⟨A1, B1, s1, s2, s3, s4, s5⟩ := stop h (by omega)
      have s5 := s5.mono (show r ≤ b + 1 by omega)
      refine ⟨A1, B1, ?_, ?_, s3, s4, Or.inl s5⟩
      · unfold SJ_X4_readOperand_92 S_X4_readReference
        rw [content_eq h, bS]; dsimp only
        rw [take_n h (b := 2) (x := 2) rfl (by omega) k2, s1, bS, bS]; dsimp only
        rw [if_neg (by simp), bS]
      · have e165 : SJ_X11_atom_165 rR B = some ((), B1) := by
          unfold SJ_X11_atom_165
          rw [takes_n h (b := 40) (x := 40) rfl (by omega) (by omega) k40, bS]; dsimp only
          rw [if_pos rfl, s2, bS]
        unfold S_X11_atom
        rw [h.2.2.2.2.1, if_pos rfl]
        rcases tok h with t | t | t | t | ⟨w, t⟩ | ⟨b', t⟩
        · rw [t.2.2, if_pos (by decide), if_pos (by decide), if_pos (by decide)]; exact e165
        · rw [t.2.2, if_pos (by decide), if_pos (by decide), if_pos (by decide)]; exact e165
        · omega
        · omega
        · rw [t.2.2.2.1, if_pos (by decide), if_pos (by decide), if_neg (by simp), t.2.2.2.2, if_pos (show ni (w + 1) < 8 from (ni_lt (b := 8) (by omega) (by omega)).mpr (by omega))]; exact e165
        · rw [t.2.2.2.2.1, if_pos (by decide), if_pos (by decide), if_pos (by decide)]; exact e165
  by_cases k3 : kap by_ n T wd i = 3
  · -- a number, or a year
    rw [k3, if_neg (show ¬ ¬ ni 3 = 3 by simp; rfl)]
    have tk : gi B 181 6 = 1 ∧ gi B 181 9 = ni (chi by_ n T i) ∧ chi by_ n T i < 1000000000 := by
      rcases tok h with t | t | t | t | ⟨w, t⟩ | ⟨b', t⟩
      · omega
      · omega
      · omega
      · exact t.2.2
      · omega
      · omega
    obtain ⟨t1, t2, t3⟩ := tk
    obtain ⟨B1, a1, a2, a3, a4, a5, a6, a7, a8⟩ := adv' h (by omega)
    rw [t1, if_pos (by decide), if_neg (by simp)]
    unfold S_X11_takesNumber S_X4_readNumberOrYear
    rw [h.2.2.2.2.1, if_neg (by simp), t1, if_pos rfl, a1, bS, bS, place_eq h, bS]; dsimp only
    rw [content_eq h, bS]; dsimp only
    rw [kind_eq a2, bS]; dsimp only
    have kl2 := kap_lt a2
    have q9 := a2.p9
    by_cases k46 : kap by_ n T wd (i + 1) = 46
    · obtain ⟨B2, s1, s2, s3, s4⟩ := takes_y a2 (b := 46) (x := 46) rfl (by omega) (by omega) k46
      rw [k46, if_pos (show ni 46 = (46 : Int32) from rfl), s1, bS]; dsimp only
      rw [if_neg (show ¬ (1 : Int32) = 0 by decide), where_eq h, t2]
      have ft := FI.lt h (by omega)
      obtain ⟨A3, B3, Y, y1, y2, y3, y4, y5, y6, y7, y8, y9, _⟩ := lk_year (m := chi by_ n T i) (q := pfN by_ n i) s2 t3 (by omega) (by rw [si_ff' (by omega), si_ff' (by omega), si_ff' (by omega), si_ff' (by omega)]; exact ft)
      rw [y1, y2, bS, bS, bS]; dsimp only
      rw [if_neg (ni_ne1 (by omega))]
      have f3 : gi B3 181 31 = ni v := y9.trans ((s3.2.2.1 31 (by omega)).trans (a7.trans h31))
      obtain ⟨A4, B4, r1, r2, r3, r4, r5⟩ := lk_ref hr y5 f3 (((a4.trans (frC_7 (A := si A 7 2 (gi A 7 2 + 1)) (j := 2) (x := gi (si A 7 2 (gi A 7 2 + 1)) 7 2 + 1) (by omega))).trans y6).cx hcq) hv (by omega) (by omega) hb hb2 y3 y4
      rw [r1, bS]; dsimp only
      unfold SJ_X4_readOperand_34
      have e2 : ((S_X11_takesName B3).bind fun w12 => (S_X11_called rR w12.1 (if Y = own then -1 else ni Y) w12.2).bind fun w13 => some ((), w13.2)) = some ((), B4) := by
        cases hq : S_X11_takesName B3 with
        | none => rw [hq] at r2; cases r2
        | some q => rw [hq, bS] at r2; rw [bS, r2, bS]
      have fC := ((a4.trans (frC_7 (A := si A 7 2 (gi A 7 2 + 1)) (j := 2) (x := gi (si A 7 2 (gi A 7 2 + 1)) 7 2 + 1) (by omega))).trans y6).trans r3
      have fB := ((a5.trans s3.fr).trans y7).trans r4
      refine ⟨A4, B4, rfl, e2, fC, fB, ?_⟩
      rcases r5 with r5 | ⟨i3, m, o1, o2, o3, o4, o5⟩
      · exact Or.inl r5
      · exact Or.inr ⟨i3, m, o1, ((a6.trans (kb_adv s3) (Nat.le_refl _) (Nat.le_refl _)).trans y8 (Nat.le_refl _) (Nat.le_refl _)).trans o2 (Nat.le_refl _) (Nat.le_refl _), by omega, o4, o5.trans (f3.trans h31.symm)⟩
    · rw [if_neg (ni_nn (b := 46) (x := 46) rfl (by omega) (by omega) k46), takes_n a2 (b := 46) (x := 46) rfl (by omega) (by omega) k46, bS]; dsimp only
      rw [if_pos rfl, t2, ni_l (by omega)]
      obtain ⟨e1, e2, e3⟩ := lk_em (o := 0) (a := nl (chi by_ n T i)) (w := 0) (v := nl (chi by_ n T i)) (z := -1) a2 (by omega) (by omega)
      rw [e1, e2, bS, bS, bS]; dsimp only
      rw [if_pos rfl]
      unfold SJ_X4_readOperand_34
      refine ⟨_, _, rfl, rfl, a4.trans emA_fr, a5.trans emB_fr, Or.inr ⟨i + 1, 1, e3, a6.trans kb_em (Nat.le_refl _) (Nat.le_refl _), a8, ?_, ?_⟩⟩
      · refine ef_push (by omega) t3 ?_ ?_ ?_ ?_
        · rw [emA_9, if_pos rfl]
        · rw [emA_10, if_pos rfl]
        · rw [emB_1, if_pos rfl]
        · rw [emB_2, if_pos rfl]
      · rw [emB_f (by omega) (by omega)]; exact a7
  · rw [if_pos (ni_nn (b := 3) (x := 3) rfl (by omega) (by omega) k3)]
    by_cases k40 : kap by_ n T wd i = 40
    · rw [k40, if_neg (show ¬ ¬ ni 40 = 40 by simp; rfl)]
      have t1 : gi B 181 6 = 3 := by
        rcases tok h with t | t | t | t | ⟨w, t⟩ | ⟨b', t⟩
        · omega
        · omega
        · omega
        · omega
        · omega
        · exact t.2.2.2.2.1
      obtain ⟨B2, s1, s2, s3, s4⟩ := takes_y h (b := 40) (x := 40) rfl (by omega) (by omega) k40
      rw [t1, if_pos (by decide), if_pos (by decide), if_pos (by decide)]
      unfold SJ_X11_atom_165
      rw [s1, bS]; dsimp only
      rw [if_neg (show ¬ (1 : Int32) = 0 by decide), show ni v + 1 = ni (v + 1) from ni_add v 1]
      have f2 : gi B2 181 31 = ni v := (s3.2.2.1 31 (by omega)).trans h31
      obtain ⟨A3, B3, u1, u2, u3, u4, u5⟩ := hr.1 (i + 1) c r _ B2 s2 (by rw [f2]; rfl) ((frC_7 (A := A) (j := 2) (x := gi A 7 2 + 1) (by omega)).cx hcq) (by omega) (by omega)
      rw [u1, u2, bS, bS]; dsimp only
      have fC := (frC_7 (A := A) (j := 2) (x := gi A 7 2 + 1) (by omega)).trans u3
      have fB := s3.fr.trans u4
      rcases u5 with u5 | ⟨v12, i3, m, o1, o2, o3, o4, o5⟩
      · rw [bk_take u5.2.1 (by decide), wr_must u5.2.2.1, bS, bS]; dsimp only
        exact ⟨A3, B3, rfl, rfl, fC, fB, Or.inl (u5.mono (by omega))⟩
      · have z9 := o1.p9
        obtain ⟨x, A4, B4, x1, x2, x3, x4, x5⟩ := lk_take o1 (by omega) (b := 41) (x := 41) rfl (by omega) (by omega)
        rw [x1, x2, bS, bS]; dsimp only
        refine ⟨A4, B4, rfl, rfl, fC.trans x3, fB.trans x4, ?_⟩
        rcases x5 with x5 | ⟨x5, x6, x7, x8, x9⟩
        · exact Or.inl (x5.mono (by omega))
        · have k2 : Kb (c + m) (r + m) A3 B3 A4 B4 := by rw [x6]; exact kb_adv x7
          exact Or.inr ⟨i3 + 1, m, x8, ((kb_adv s3).trans o2 (Nat.le_refl _) (Nat.le_refl _)).trans k2 (by omega) (by omega), by omega, (o4.kb k2 (Nat.le_refl _) (Nat.le_refl _)).mono (by omega), by rw [x7.2.2.1 31 (by omega), o5, f2, h31]⟩
    · rw [if_pos (ni_nn (b := 40) (x := 40) rfl (by omega) (by omega) k40)]
      by_cases k307 : kap by_ n T wd i < 307
      · rw [if_pos (show ni (kap by_ n T wd i) < 307 from (ni_lt (b := 307) (by omega) (by omega)).mpr k307)]
        obtain ⟨A', B', q1, q2, q3⟩ := other k3 k40 k307
        refine ⟨A', B', q1, ?_, q3⟩
        unfold S_X11_atom at q2
        rw [h.2.2.2.2.1, if_pos rfl] at q2
        exact q2
      · -- at, tons, cargo, lock, day
        rw [if_neg (show ¬ ni (kap by_ n T wd i) < 307 from fun e => k307 ((ni_lt (b := 307) (by omega) (by omega)).mp e)), if_neg (show ¬ (311 : Int32) < ni (kap by_ n T wd i) from fun e => by have := (ni_lt (a := 311) (by omega) (by omega)).mp e; omega)]
        obtain ⟨w, tw⟩ : ∃ w, 7 ≤ w ∧ w < 12 ∧ kap by_ n T wd i = 300 + w ∧ gi B 181 6 = 2 ∧ gi B 181 10 = ni (w + 1) := by
          rcases tok h with t | t | t | t | ⟨w, t⟩ | ⟨b', t⟩
          · omega
          · omega
          · omega
          · omega
          · exact ⟨w, by omega, t.1, t.2.1, t.2.2.2⟩
          · omega
        obtain ⟨w7, w12, tk, t6, t10⟩ := tw
        rw [t6, if_pos (by decide), if_pos (by decide), if_neg (by simp), t10, if_neg (show ¬ ni (w + 1) < 8 from fun e => by have := (ni_lt (b := 8) (by omega) (by omega)).mp e; omega), if_neg (show ¬ (12 : Int32) < ni (w + 1) from fun e => by have := (ni_lt (a := 12) (by omega) (by omega)).mp e; omega)]
        have hcx1 : (gi A 7 4 = 1 ↔ ¬ gi B 181 33 = 0) := h.1.2.2.2.2.2.2.2.2.2.2.2.1
        have hcx2 : (gi A 7 4 = 2 ↔ ¬ gi B 181 34 = 0) := h.1.2.2.2.2.2.2.2.2.2.2.2.2
        -- both tell, or neither
        have tell6 : ∃ A1 B1, ((S_X4_place A).bind fun w3 => (S_X4_note (6 : Int32) w3.1 w3.2).bind fun w4 => SJ_X4_readSetting_29 (ni (300 + w)) w4.2) = SJ_X4_readSetting_29 (ni (300 + w)) A1 ∧ SJ_X11_atom_136 rR (gi B 181 7) B = SJ_X11_atom_143 rR B1 ∧
            R by_ n T own wd i c r A1 B1 ∧ FrC A A1 ∧ FrB B B1 ∧ Kb c r A B A1 B1 ∧ gi B1 181 31 = gi B 181 31 ∧ ¬ gi A1 7 6 = 0 := by
          obtain ⟨A', B', t1, t2, t3, t4, t5, t6, t7, t8, t9, t10, t11, t12, t13⟩ := tell (k := 6) (q := pfN by_ n i) h (by omega) (by omega) (by omega) (Or.inr ⟨by omega, by rw [tk]; unfold fk; rw [if_neg (by omega), if_neg (by omega)]⟩) (by
            have := FI.at h
            rw [tk, show fk (300 + w) = 6 by unfold fk; rw [if_neg (by omega), if_neg (by omega)]] at this
            exact this)
          refine ⟨A', B', ?_, ?_, t5, t3, t4, ⟨fun j _ => ⟨by rw [t6], by rw [t7]⟩, fun j _ => ⟨by rw [t9], by rw [t10], by rw [t11]⟩, fun Y e => by rw [t8]; exact e, fun _ => t13⟩, t12, t13⟩
          · rw [place_eq h, bS]; dsimp only
            rw [show (6 : Int32) = ni 6 from rfl, t1, bS]
          · unfold SJ_X11_atom_136
            rw [where_eq h, show (6 : Int32) = ni 6 from rfl, t2, bS]
        have told : ∃ A1 B1, S_X4_readSetting (ni (kap by_ n T wd i)) A = SJ_X4_readSetting_29 (ni (300 + w)) A1 ∧ (if ¬ ni (w + 1) = 8 then (if ¬ gi B 181 34 = 0 then SJ_X11_atom_143 rR B else SJ_X11_atom_136 rR (gi B 181 7) B) else (if ¬ gi B 181 33 = 0 then SJ_X11_atom_143 rR B else SJ_X11_atom_136 rR (gi B 181 7) B)) = SJ_X11_atom_143 rR B1 ∧
            R by_ n T own wd i c r A1 B1 ∧ FrC A A1 ∧ FrB B B1 ∧ Kb c r A B A1 B1 ∧ gi B1 181 31 = gi B 181 31 ∧ (gi A1 7 6 = 0 → qq = if w = 7 then 1 else 2) := by
          obtain ⟨A9, B9, y1, y2, y3, y4, y5, y6, y7, y8⟩ := tell6
          unfold S_X4_readSetting SJ_X4_readSetting_16
          rw [tk]
          by_cases e7 : w = 7
          · subst e7
            rw [if_neg (show ¬ ¬ ni (300 + 7) = 307 by simp; rfl), if_neg (show ¬ ¬ ni (7 + 1) = 8 by simp; rfl)]
            by_cases e : gi A 7 4 = 1
            · rw [if_pos e, if_pos (hcx1.mp e)]
              exact ⟨A, B, rfl, rfl, h, FrC.rf, FrB.rf, Kb.rf, rfl, fun _ => (hcq.eq (q := 1) e (by omega)).trans (if_pos rfl).symm⟩
            · rw [if_neg e, if_neg (fun q => e (hcx1.mpr q))]; exact ⟨A9, B9, y1, y2, y3, y4, y5, y6, y7, fun z => absurd z y8⟩
          · rw [if_pos (ni_nn (a := 300 + w) (b := 307) (x := 307) rfl (by omega) (by omega) (by omega)), if_pos (ni_nn (a := w + 1) (b := 8) (x := 8) rfl (by omega) (by omega) (by omega))]
            by_cases e : gi A 7 4 = 2
            · rw [if_pos e, if_pos (hcx2.mp e)]
              exact ⟨A, B, rfl, rfl, h, FrC.rf, FrB.rf, Kb.rf, rfl, fun _ => (hcq.eq (q := 2) e (by omega)).trans (if_neg e7).symm⟩
            · rw [if_neg e, if_neg (fun q => e (hcx2.mpr q))]; exact ⟨A9, B9, y1, y2, y3, y4, y5, y6, y7, fun z => absurd z y8⟩
        obtain ⟨A1, B1, q1, q2, q3, q4, q5, q6, q7, q8⟩ := told
        rw [q1, q2]
        have t10' : gi B1 181 10 = ni (w + 1) := by
          rcases tok q3 with t | t | t | t | ⟨w', t⟩ | ⟨b', t⟩
          · omega
          · omega
          · omega
          · omega
          · rw [t.2.2.2.2, show w' = w by omega]
          · omega
        unfold SJ_X11_atom_143 SJ_X4_readSetting_29
        rw [t10', emR_eq q3.2.2.2.2.2.2.2.2.1 (by omega), bS]; dsimp only
        have r1 := r_emB (w := 1 + ni (w + 1) - 8) (v := 0) (z := -1) q3
        obtain ⟨B2, a1, a2, a3, a4, a5, a6, a7, a8⟩ := adv' r1 (by omega)
        rw [a1, bS]
        have p10 := a2.p9
        by_cases e7 : w = 7
        · subst e7
          rw [if_neg (show ¬ ¬ ni (300 + 7) = 307 by simp; rfl), emC_eq a2.2.2.2.2.2.2.2.1 (by omega), bS, bS]
          refine ⟨_, _, rfl, rfl, (q4.trans a4).trans emA_fr, (q5.trans emB_fr).trans a5, Or.inr ⟨i + 1, 1, r_emA a2, ((q6.trans kb_emB (Nat.le_refl _) (Nat.le_refl _)).trans a6 (Nat.le_refl _) (by omega)).trans kb_emA (Nat.le_refl _) (Nat.le_refl _), a8, ?_, ?_⟩⟩
          · refine ef_at rfl (fun f0 => (q8 (by rw [emA_f (by omega) (by omega), si_ff' (by omega)] at f0; exact f0)).trans (if_pos rfl)) (by omega) ?_ ?_
            · rw [emA_9, if_pos rfl]
            · rw [(a3.2.1 191 (by omega)).1, emB_1, if_pos rfl]; rfl
          · rw [a7, emB_f (by omega) (by omega)]; exact q7
        · rw [if_pos (ni_nn (a := 300 + w) (b := 307) (x := 307) rfl (by omega) (by omega) (by omega)), show ni (300 + w) - 308 = ni (300 + w - 308) from ni_sub (a := 300 + w) (b := 308) (by omega), ni_l (by omega), emC_eq a2.2.2.2.2.2.2.2.1 (by omega), bS, bS]
          refine ⟨_, _, rfl, rfl, (q4.trans a4).trans emA_fr, (q5.trans emB_fr).trans a5, Or.inr ⟨i + 1, 1, r_emA a2, ((q6.trans kb_emB (Nat.le_refl _) (Nat.le_refl _)).trans a6 (Nat.le_refl _) (by omega)).trans kb_emA (Nat.le_refl _) (Nat.le_refl _), a8, ?_, ?_⟩⟩
          · refine ef_set rfl (fun f0 => (q8 (by rw [emA_f (by omega) (by omega), si_ff' (by omega)] at f0; exact f0)).trans (if_neg e7)) (m := 300 + w - 308) (by omega) (by omega) ?_ ?_ ?_
            · rw [emA_9, if_pos rfl]
            · rw [emA_10, if_pos rfl]
            · rw [(a3.2.1 191 (by omega)).1, emB_1, if_pos rfl, show (1 : Int32) + ni (w + 1) = ni (1 + (w + 1)) from ni_add 1 _, show ni (1 + (w + 1)) - 8 = ni (1 + (w + 1) - 8) from ni_sub (a := 1 + (w + 1)) (b := 8) (by omega)]
              exact congrArg ni (by omega)
          · rw [a7, emB_f (by omega) (by omega)]; exact q7
end Op

-- needs: 74.sclsb 75.num 76.rel 77.cong 78.sim 79.qa 79.qb 79.ra 79.rb 79.rc 79.rd 79.re 79.rf 79.rg 79.rh
section Cx
variable {by_ : Nat → Nat} {n T own : Nat} {wd : Nat → Int64} {qq : Nat} {v b : Nat} {rC : Int32 → Mem → Option (Unit × Mem)} {rR : Mem → Option (Unit × Mem)}
theorem r_f31 {A B : Mem} {i c r : Nat} {x : Int32} (h : R by_ n T own wd i c r A B) : R by_ n T own wd i c r A (si B 181 31 x) := by
  obtain ⟨hs, d1, d2, d3, d4, d5, d6, d7, d8, d9⟩ := h
  refine ⟨st_fr hs FrC.rf (frB_f (by omega)), d1, d2, d3, ?_, ?_, ?_, d7, ?_, ?_⟩
  · rw [si_ff' (by omega)]; exact d4
  · exact rtk_cg d5 (si_ff' (by omega)) (si_ff' (by omega)) (si_ff' (by omega)) (si_ff' (by omega)) (si_ff' (by omega)) rfl
  · rw [si_ff' (by omega), si_ff' (by omega)]; exact d6
  · rw [si_ff' (by omega)]; exact d8
  · rw [si_ff' (by omega)]; exact d9
theorem r_sl {A B : Mem} {i c r j j' : Nat} {x y : Int64} (h : R by_ n T own wd i c r A B) : R by_ n T own wd i c r (sl A 10 j x) (sl B 192 j' y) := by
  obtain ⟨hs, d1, d2, d3, d4, d5, d6, d7, d8, d9⟩ := h
  exact ⟨st_fr hs frC_10 frB_l, d1, d2, d3, d4, rtk_cg d5 rfl rfl rfl rfl rfl (by rw [gl_ne (by omega)]), d6, d7, d8, d9⟩
theorem land_eq {A : Mem} {c j : Nat} (h : gi A 8 6 = ni c) (hc : c ≤ 1024) (hj : j < c) : S_X0_landHere (ni j) A = some ((), sl A 10 j (nl c)) := by
  unfold S_X0_landHere
  rw [if_neg (ni_n0 (by omega)), h, if_neg (fun e => by have := (ni_le (by omega) (by omega)).mp e; omega), gdT ((ni_inb (by omega)).mpr (by omega)), ni_tn (by omega), ni_l (by omega)]
def cmpN (k : Nat) : Int32 := if k = 60 then 12 else if k = 61 then 11 else if k = 62 then 13 else -1
theorem cmp_eq {k : Nat} {M : Mem} (h : k < 1000) : L_X4_comparison (ni k) M = some (cmpN k, M) := by
  unfold L_X4_comparison cmpN
  have c : ∀ m, m < 256 → ((ni k = ni m) ↔ k = m) := fun m hm => ni_inj (by omega) (by omega)
  rw [show (60 : Int32) = ni 60 from rfl, show (61 : Int32) = ni 61 from rfl, show (62 : Int32) = ni 62 from rfl]
  simp only [c 60 (by omega), c 61 (by omega), c 62 (by omega)]
  split
  · rfl
  · split
    · rfl
    · split <;> rfl
/-- a comparison; then the class asks for a question mark -/
theorem lk_cmp (hr : Rec by_ n T own wd qq (v + 1) b rC rR) {A B : Mem} {i c r : Nat} (h : R by_ n T own wd i c r A B) (h31 : gi B 181 31 = ni v) (hcq : CxQ qq A) (hv : v ≤ 12) (hc : c ≤ pfN by_ n i + 60) (hr2 : r ≤ pfN by_ n i + 60) (hb : 1000 ≤ b) (hb2 : b < 1900) :
    ∃ A' B', SB_X4_readChoice rC (ni v) A = SJ_X4_readChoice_54 rC (ni v) A' ∧ S_X11_compared rR B = some ((), B') ∧ FrC A A' ∧ FrB B B' ∧ (Bk by_ n T own wd (b + 5) A' B' ∨ OkP by_ n T own wd (false, qq) (4 + 3 * (12 - v)) i c r A B A' B') := by
  obtain ⟨A1, B1, u1, u2, u3, u4, u5⟩ := lk_sum hr h h31 hcq hv hc hr2 hb hb2
  unfold SB_X4_readChoice S_X11_compared
  rw [if_pos (show ni v ≤ 12 from (ni_le (b := 12) (by omega) (by omega)).mpr hv), u1, u2, bS, bS]; dsimp only
  rcases u5 with u5 | ⟨i1, m, o1, o2, o3, o4, o5⟩
  · rw [bk_kind u5.2.1, bS]; dsimp only
    rw [show L_X4_comparison 4 A1 = some (-1, A1) from rfl, bS, if_pos rfl, if_pos u5.2.2.1]
    exact ⟨A1, B1, rfl, rfl, u3, u4, Or.inl (u5.mono (by omega))⟩
  · have kl := kap_lt o1
    rw [kind_eq o1, bS]; dsimp only
    rw [cmp_eq (by omega), bS]; dsimp only
    rw [o1.2.2.2.2.1, if_neg (show ¬ ¬ (0 : Int32) = 0 by simp)]
    by_cases hk : kap by_ n T wd i1 = 61 ∨ kap by_ n T wd i1 = 60 ∨ kap by_ n T wd i1 = 62
    · obtain ⟨op, hop, hop1⟩ : ∃ op, cmpN (kap by_ n T wd i1) = op ∧ ¬ op = -1 ∧ Bop false op (ni (kap by_ n T wd i1)) := by
        rcases hk with k | k | k <;> rw [k]
        · exact ⟨11, rfl, by decide, Or.inr (Or.inr (Or.inr ⟨rfl, Or.inr (Or.inr (Or.inl ⟨rfl, rfl⟩))⟩))⟩
        · exact ⟨12, rfl, by decide, Or.inr (Or.inr (Or.inr ⟨rfl, Or.inr (Or.inr (Or.inr (Or.inl ⟨rfl, rfl⟩)))⟩))⟩
        · exact ⟨13, rfl, by decide, Or.inr (Or.inr (Or.inr ⟨rfl, Or.inr (Or.inr (Or.inr (Or.inr ⟨rfl, rfl⟩)))⟩))⟩
      obtain ⟨B2, a1, a2, a3, a4, a5, a6, a7, a8⟩ := adv' o1 (by omega)
      have q9 := a2.p9
      obtain ⟨A3, B3, x1, x2, x3, x4, x5⟩ := lk_sum hr a2 (a7.trans (o5.trans h31)) ((u3.trans a4).cx hcq) hv (by omega) (by omega) hb hb2
      rw [hop, if_neg hop1.1, x1, bS]; dsimp only
      have e39 : SJ_X11_compared_39 rR B1 = (S_X11_emit (ni (kap by_ n T wd i1)) 0 (-1) B3).bind fun w3 => some ((), w3.2) := by
        rw [show SJ_X11_compared_39 rR B1 = _ from signByte o1 (by omega) (by omega) (f := fun x => (S_X11_advance B1).bind fun w1 => (S_X11_sum rR w1.2).bind fun w2 => (S_X11_emit x 0 (-1) w2.2).bind fun w3 => some ((), w3.2))]
        rw [a1, bS]; dsimp only
        rw [x2, bS]
      have eR : ((S_X11_isSign (61 : Int32) B1).bind fun w5 => if ¬ w5.1 = 0 then (SJ_X11_compared_39 rR w5.2) else ((S_X11_isSign (60 : Int32) w5.2).bind fun w6 => if ¬ w6.1 = 0 then (SJ_X11_compared_39 rR  w6.2) else ((S_X11_isSign (62 : Int32) w6.2).bind fun w7 => if ¬ w7.1 = 0 then (SJ_X11_compared_39 rR  w7.2) else (some ((), w7.2))))) = (S_X11_emit (ni (kap by_ n T wd i1)) 0 (-1) B3).bind fun w3 => some ((), w3.2) := by
        rw [show (61 : Int32) = ni 61 from rfl, isSign_eq o1 (by omega) (by omega), bS]; dsimp only
        by_cases k42 : kap by_ n T wd i1 = 61
        · rw [if_pos k42, if_pos (by decide)]; exact e39
        · rw [if_neg k42, if_neg (by simp), show (60 : Int32) = ni 60 from rfl, isSign_eq o1 (by omega) (by omega), bS]; dsimp only
          by_cases k47 : kap by_ n T wd i1 = 60
          · rw [if_pos k47, if_pos (by decide)]; exact e39
          · rw [if_neg k47, if_neg (by simp), isSign_y o1 (b := 62) (x := 62) rfl (by omega) (by omega) (by omega), bS]; dsimp only
            rw [if_pos (show ¬ (1 : Int32) = 0 by decide)]; exact e39
      rw [eR]
      have fC := (u3.trans a4).trans x3
      have fB := (u4.trans a5).trans x4
      rcases x5 with x5 | ⟨i3, m3, z1, z2, z3, z4, z5⟩
      · obtain ⟨x, A4, e1, e2, e3⟩ := x5.emC (o := op) (a := 0)
        obtain ⟨B4, y1, y2, y3, _⟩ := e3.emR (by omega) (w := ni (kap by_ n T wd i1)) (v := 0) (z := -1)
        rw [e1, y1, bS, bS]
        exact ⟨A4, B4, rfl, rfl, fC.trans e2, fB.trans y2, Or.inl y3⟩
      · have z9 := z1.p9
        obtain ⟨e1, e2, e3⟩ := lk_em (o := op) (a := 0) (w := ni (kap by_ n T wd i1)) (v := 0) (z := -1) z1 (by omega) (by omega)
        rw [e1, e2, bS, bS]; dsimp only
        have e3' : R by_ n T own wd i3 (c + (m + m3 + 1)) (r + (m + m3 + 1)) (emA A3 (c + m + m3) op 0) (emB B3 (r + m + m3) (ni (kap by_ n T wd i1)) 0 (-1)) := by
          rw [show c + (m + m3 + 1) = c + m + m3 + 1 by omega, show r + (m + m3 + 1) = r + m + m3 + 1 by omega]; exact e3
        have k1 : Kb (c + m) (r + m) A1 B1 A3 B3 := a6.trans z2 (Nat.le_refl _) (Nat.le_refl _)
        refine ⟨_, _, rfl, rfl, fC.trans emA_fr, fB.trans emB_fr, Or.inr ⟨i3, m + m3 + 1, e3', (o2.trans k1 (by omega) (by omega)).trans kb_em (by omega) (by omega), by omega, ?_, ?_⟩⟩
        · refine ef_bin (g := 3 + 3 * (12 - v)) (((o4.kb k1 (Nat.le_refl _) (Nat.le_refl _)).kb kb_em (by omega) (by omega)).mono (by omega)) (z4.kb kb_em (Nat.le_refl _) (Nat.le_refl _)) (by omega) ?_
          rw [emA_9, if_pos rfl, emB_1, if_pos rfl]; exact hop1.2
        · rw [emB_f (by omega) (by omega), z5, a7, o5]
    · have hf : cmpN (kap by_ n T wd i1) = -1 := by unfold cmpN; rw [if_neg (by omega), if_neg (by omega), if_neg (by omega)]
      rw [hf, if_pos rfl, isSign_n o1 (b := 61) (x := 61) rfl (by omega) (by omega) (by omega), bS]; dsimp only
      rw [if_neg (show ¬ ¬ (0 : Int32) = 0 by simp), isSign_n o1 (b := 60) (x := 60) rfl (by omega) (by omega) (by omega), bS]; dsimp only
      rw [if_neg (show ¬ ¬ (0 : Int32) = 0 by simp), isSign_n o1 (b := 62) (x := 62) rfl (by omega) (by omega) (by omega), bS]; dsimp only
      rw [if_neg (show ¬ ¬ (0 : Int32) = 0 by simp)]
      exact ⟨A1, B1, rfl, rfl, u3, u4, Or.inr ⟨i1, m, o1, o2, o3, o4.mono (by omega), o5⟩⟩
/-- what is left of a choice behind its colon -/
def tlC (rS : Int32 → Mem → Option (Unit × Mem)) (x j : Int32) (M : Mem) : Option (Unit × Mem) := (S_X0_emit (14 : Int32) (0 : Int64) M).bind fun w5 =>
  (S_X0_landHere j w5.2).bind fun w6 =>
  (rS x w6.2).bind fun w7 =>
  (S_X0_landHere w5.1 w7.2).bind fun w8 =>
  some ((), w8.2)
def tlR (rS : Mem → Option (Unit × Mem)) (j : Int32) (M : Mem) : Option (Unit × Mem) := (S_X11_emit (10 : Int32) (0 : Int64) (-1 : Int32) M).bind fun w6 =>
  gd (inb j 2000) (
  (rS (sl w6.2 192 j.toNatClampNeg ((gi w6.2 181 27).toInt64))).bind fun w7 =>
  gd (inb (gi M 181 27) 2000) (
  SJ_X11_formula_107 rS  (sl w7.2 192 (gi M 181 27).toNatClampNeg ((gi w7.2 181 27).toInt64))))
theorem bk_tail (hr : Rec by_ n T own wd qq (v + 1) b rC rR) {A B : Mem} {b' : Nat} {j : Int32} {r : Nat} (h : Bk by_ n T own wd b' A B) (hb : b' < 1990) (hj : r < 2000) : ∃ A' B', tlC rC (ni (v + 1)) j A = some ((), A') ∧ tlR rR (ni r) B = some ((), B') ∧ FrC A A' ∧ FrB B B' ∧ Bk by_ n T own wd (b' + 1) A' B' := by
  obtain ⟨r', r1, r2⟩ := h.2.2.2.2.2.2
  obtain ⟨x, A1, e1, e2, e3⟩ := h.emC (o := 14) (a := 0)
  obtain ⟨B1, y1, y2, y3, y4⟩ := e3.emR (by omega) (w := 10) (v := 0) (z := -1)
  obtain ⟨A2, l1, l2, l3⟩ := y3.land (j := j)
  obtain ⟨A3, k1, k2, k3⟩ := l3.land (j := x)
  unfold tlC tlR
  rw [e1, bS]; dsimp only
  rw [l1, bS]; dsimp only
  rw [hr.2.1 A2 B1 (b' + 1) l3, bS]; dsimp only
  rw [k1, bS, y1, bS]; dsimp only
  have w1 : ¬ gi (sl B1 192 (ni r).toNatClampNeg ((gi B1 181 27).toInt64)) 181 11 = 0 := y3.2.2.1
  rw [gdT ((ni_inb (by omega)).mpr hj), hr.2.2 _ w1, bS, r2, gdT ((ni_inb (by omega)).mpr (by omega))]
  unfold SJ_X11_formula_107
  exact ⟨A3, _, rfl, rfl, (e2.trans l2).trans k2, ((y2.trans frB_l).trans frB_l).trans (frB_f (by omega)), ((k3.put).put).f31⟩
theorem kb_sl {c r j j' : Nat} {A B : Mem} {x y : Int64} (hj : c ≤ j) (hj' : r ≤ j') : Kb c r A B (sl A 10 j x) (sl B 192 j' y) := by
  refine ⟨fun i hi => ⟨rfl, ?_⟩, fun i hi => ⟨rfl, ?_, rfl⟩, fun Y e => e, fun e => e⟩
  · rw [gl_sl, if_neg (by omega)]
  · rw [gl_sl, if_neg (by omega)]
theorem kb_f31 {c r : Nat} {A B : Mem} {x : Int32} : Kb c r A B A (si B 181 31 x) := ⟨fun _ _ => ⟨rfl, rfl⟩, fun i _ => ⟨by rw [gi_ne (by omega)], rfl, by rw [gi_ne (by omega)]⟩, fun _ e => e, fun e => e⟩
theorem lk_choice : ∀ {f v : Nat}, 1 ≤ v → v + f = 15 → 2 ≤ f → Rec by_ n T own wd qq v (1000 + 10 * (13 - v)) (S_X4_readChoice f) (S_X11_formula f) := by
  intro f
  induction f with
  | zero => intro v _ _ h; omega
  | succ f ih =>
    intro v hv1 hvf hf
    refine ⟨?_, fun A B b' h => h.choice, fun B h => wr_formula h⟩
    intro i c r A B h h31 hcq hc hr2
    have p9 := h.p9
    rw [S_X4_readChoice, S_X11_formula]
    by_cases hv : v ≤ 12
    · have hr := ih (v := v + 1) (by omega) (by omega) (by omega)
      have hb : 1000 ≤ 1000 + 10 * (13 - (v + 1)) := by omega
      have hb2 : 1000 + 10 * (13 - (v + 1)) < 1900 := by omega
      have hbv : 1000 + 10 * (13 - (v + 1)) + 10 = 1000 + 10 * (13 - v) := by omega
      generalize 1000 + 10 * (13 - (v + 1)) = b at hr hb hb2 hbv
      rw [← hbv]
      unfold SB_X11_formula
      have e31 : gi B 181 31 + 1 = ni v := by rw [h31, show ni (v - 1) + 1 = ni (v - 1 + 1) from ni_add _ 1]; exact congrArg ni (by omega)
      rw [h.2.2.2.2.1, if_pos rfl, h31, if_pos (ni_nn (a := v - 1) (b := 12) (x := 12) rfl (by omega) (by omega) (by omega)), ← h31, e31]
      obtain ⟨A1, B1, u1, u2, u3, u4, u5⟩ := lk_cmp hr (r_f31 (x := ni v) h) si_eq hcq hv hc hr2 hb hb2
      have fB1 : FrB B B1 := (frB_f (by omega)).trans u4
      rw [u1, u2, bS]; dsimp only
      -- the end: one level back
      rcases u5 with u5 | ⟨i1, m, o1, o2, o3, o4, o5⟩
      · rw [bk_ch54 u5.2.1, wr_takes u5.2.2.1, bS]; dsimp only
        rw [if_pos rfl]
        unfold SJ_X11_formula_107
        exact ⟨A1, _, rfl, rfl, u3, fB1.trans (frB_f (by omega)), Or.inl ((u5.f31).mono (by omega))⟩
      · have q9 := o1.p9
        have kl := kap_lt o1
        have o5 : gi B1 181 31 = ni v := o5.trans si_eq
        have o2 : Kb c r A B A1 B1 := kb_f31.trans o2 (Nat.le_refl _) (Nat.le_refl _)
        have back : ni v - 1 = gi B 181 31 := by rw [h31]; exact ni_sub (a := v) (b := 1) hv1
        unfold SJ_X4_readChoice_54
        rw [kind_eq o1, bS]; dsimp only
        by_cases hk : kap by_ n T wd i1 = 63
        · obtain ⟨B2, s1, s2, s3, s4⟩ := takes_y o1 (b := 63) (x := 63) rfl (by omega) (by omega) hk
          have t9 := s2.p9
          rw [hk, if_pos (show ni 63 = (63 : Int32) from rfl), s1, bS]; dsimp only
          rw [if_neg (show ¬ (1 : Int32) = 0 by decide)]
          obtain ⟨e1, e2, e3⟩ := lk_em (o := 15) (a := 0) (w := 9) (v := 0) (z := -1) s2 (by omega) (by omega)
          rw [e1, e2, bS, bS]; dsimp only
          have f3 : gi (emB B2 (r + m) 9 0 (-1)) 181 31 = ni v := by rw [emB_f (by omega) (by omega), s3.2.2.1 31 (by omega), o5]
          obtain ⟨A4, B4, x1, x2, x3, x4, x5⟩ := hr.1 (i1 + 1) (c + m + 1) (r + m + 1) _ _ e3 f3 (((u3.trans (frC_7 (A := A1) (j := 2) (x := gi A1 7 2 + 1) (by omega))).trans emA_fr).cx hcq) (by omega) (by omega)
          rw [show ni v + 1 = ni (v + 1) from ni_add v 1, x1, x2, bS, bS]; dsimp only
          rw [s2.2.2.2.2.2.2.2.2.1]
          have fC4 := ((u3.trans (frC_7 (A := A1) (j := 2) (x := gi A1 7 2 + 1) (by omega))).trans emA_fr).trans x3
          have fB4 := ((fB1.trans s3.fr).trans emB_fr).trans x4
          rcases x5 with x5 | ⟨v12, i4, m4, z1, z2, z3, z4, z5⟩
          · rw [bk_take x5.2.1 (by decide), wr_must x5.2.2.1, bS, bS]; dsimp only
            obtain ⟨A5, B5, w1, w2, w3, w4, w5⟩ := bk_tail hr (r := r + m) (j := ni (c + m)) x5 (by omega) (by omega)
            unfold tlC at w1
            unfold tlR at w2
            rw [w1, w2]
            exact ⟨A5, B5, rfl, rfl, fC4.trans w3, fB4.trans w4, Or.inl (w5.mono (by omega))⟩
          · have z9 := z1.p9
            obtain ⟨x, A5, B5, y1, y2, y3, y4, y5⟩ := lk_take z1 (by omega) (b := 58) (x := 58) rfl (by omega) (by omega)
            rw [y1, y2, bS, bS]; dsimp only
            rcases y5 with y5 | ⟨y5, y6, y7, y8, y9⟩
            · obtain ⟨A6, B6, w1, w2, w3, w4, w5⟩ := bk_tail hr (r := r + m) (j := ni (c + m)) y5 (by omega) (by omega)
              unfold tlC at w1
              unfold tlR at w2
              rw [w1, w2]
              exact ⟨A6, B6, rfl, rfl, (fC4.trans y3).trans w3, (fB4.trans y4).trans w4, Or.inl (w5.mono (by omega))⟩
            · have k45 : ∀ {c' r'}, Kb c' r' A4 B4 A5 B5 := by intro c' r'; rw [y6]; exact kb_adv y7
              have y9' := y8.p9
              obtain ⟨g1, g2, g3⟩ := lk_em (o := 14) (a := 0) (w := 10) (v := 0) (z := -1) y8 (by omega) (by omega)
              rw [g1, g2, bS, bS]; dsimp only
              rw [land_eq g3.2.2.2.2.2.2.2.1 (by omega) (by omega), bS]; dsimp only
              rw [gdT ((ni_inb (by omega)).mpr (by omega)), ni_tn (by omega), g3.2.2.2.2.2.2.2.2.1, ni_l (by omega)]
              generalize hA6 : emA A5 (c + m + 1 + m4) 14 0 = A6 at g3
              generalize hB6 : emB B5 (r + m + 1 + m4) 10 0 (-1) = B6 at g3
              have g4 := r_sl (j := c + m) (j' := r + m) (x := nl (c + m + 1 + m4 + 1)) (y := nl (r + m + 1 + m4 + 1)) g3
              have f7 : gi (sl B6 192 (r + m) (nl (r + m + 1 + m4 + 1))) 181 31 = ni v := by
                show gi B6 181 31 = ni v
                rw [← hB6, emB_f (by omega) (by omega), y7.2.2.1 31 (by omega), z5]; exact f3
              obtain ⟨A8, B8, p1, p2, p3, p4, p5⟩ := hr.1 (i4 + 1) (c + m + 1 + m4 + 1) (r + m + 1 + m4 + 1) _ _ g4 (by rw [f7]; rfl) ((((fC4.trans y3).trans (show FrC A5 A6 by rw [← hA6]; exact emA_fr)).trans frC_10).cx hcq) (by omega) (by omega)
              rw [p1, p2, bS, bS]; dsimp only
              rw [y8.2.2.2.2.2.2.2.2.1]
              have fC8 := (((fC4.trans y3).trans (show FrC A5 A6 by rw [← hA6]; exact emA_fr)).trans frC_10).trans p3
              have fB8 := (((fB4.trans y4).trans (show FrB B5 B6 by rw [← hB6]; exact emB_fr)).trans frB_l).trans p4
              rw [gdT ((ni_inb (by omega)).mpr (by omega)), ni_tn (by omega)]
              unfold SJ_X11_formula_107
              rcases p5 with p5 | ⟨_, i8, m8, q1, q2, q3, q4, q5⟩
              · obtain ⟨A9, l1, l2, l3⟩ := p5.land (j := ni (c + m + 1 + m4))
                rw [l1, bS]
                exact ⟨A9, _, rfl, rfl, fC8.trans l2, (fB8.trans frB_l).trans (frB_f (by omega)), Or.inl (((l3.put).f31).mono (by omega))⟩
              · have r9 := q1.p9
                rw [land_eq q1.2.2.2.2.2.2.2.1 (by omega) (by omega), bS]; dsimp only
                rw [q1.2.2.2.2.2.2.2.2.1, ni_l (by omega)]
                have f9 : gi (sl B8 192 (r + m + 1 + m4) (nl (r + m + 1 + m4 + 1 + m8))) 181 31 = ni v := q5.trans f7
                rw [f9, back]
                -- what stayed
                have K13 : Kb (c + m) (r + m) A1 B1 (emA (si A1 7 2 (gi A1 7 2 + 1)) (c + m) 15 0) (emB B2 (r + m) 9 0 (-1)) := (kb_adv s3).trans kb_em (Nat.le_refl _) (Nat.le_refl _)
                have K16 : Kb (c + m) (r + m) A1 B1 A6 B6 := ((K13.trans z2 (by omega) (by omega)).trans (k45 (c' := c + m) (r' := r + m)) (Nat.le_refl _) (Nat.le_refl _)).trans (show Kb (c + m + 1 + m4) (r + m + 1 + m4) A5 B5 A6 B6 by rw [← hA6, ← hB6]; exact kb_em) (by omega) (by omega)
                have K18 : Kb (c + m) (r + m) A1 B1 A8 B8 := (K16.trans (kb_sl (Nat.le_refl _) (Nat.le_refl _)) (Nat.le_refl _) (Nat.le_refl _)).trans q2 (by omega) (by omega)
                have K19 : Kb (c + m) (r + m) A1 B1 (sl A8 10 (c + m + 1 + m4) (nl (c + m + 1 + m4 + 1 + m8))) (si (sl B8 192 (r + m + 1 + m4) (nl (r + m + 1 + m4 + 1 + m8))) 181 31 (gi B 181 31)) := (K18.trans (kb_sl (by omega) (by omega)) (Nat.le_refl _) (Nat.le_refl _)).trans kb_f31 (Nat.le_refl _) (Nat.le_refl _)
                have K46 : Kb (c + m + 1 + m4) (r + m + 1 + m4) A4 B4 A6 B6 := (k45 (c' := c + m + 1 + m4) (r' := r + m + 1 + m4)).trans (by rw [← hA6, ← hB6]; exact kb_em) (Nat.le_refl _) (Nat.le_refl _)
                have hR9 : R by_ n T own wd i8 (c + (m + m4 + m8 + 2)) (r + (m + m4 + m8 + 2)) (sl A8 10 (c + m + 1 + m4) (nl (c + m + 1 + m4 + 1 + m8))) (si (sl B8 192 (r + m + 1 + m4) (nl (r + m + 1 + m4 + 1 + m8))) 181 31 (gi B 181 31)) := by
                  rw [show c + (m + m4 + m8 + 2) = c + m + 1 + m4 + 1 + m8 by omega, show r + (m + m4 + m8 + 2) = r + m + 1 + m4 + 1 + m8 by omega]
                  exact r_f31 (r_sl q1)
                refine ⟨_, _, rfl, rfl, fC8.trans frC_10, (fB8.trans frB_l).trans (frB_f (by omega)), Or.inr ⟨hv, i8, m + m4 + m8 + 2, hR9, o2.trans K19 (by omega) (by omega), by omega, ?_, si_eq⟩⟩
                -- rows at the end
                have row9 : ∀ j, j < c + m + 1 + m4 + 1 → gi (sl A8 10 (c + m + 1 + m4) (nl (c + m + 1 + m4 + 1 + m8))) 9 j = gi A6 9 j := fun j hj => (q2.1 j hj).1
                have row10 : ∀ j, j < c + m + 1 + m4 + 1 → gl (sl A8 10 (c + m + 1 + m4) (nl (c + m + 1 + m4 + 1 + m8))) 10 j = if j = c + m + 1 + m4 then nl (c + m + 1 + m4 + 1 + m8) else if j = c + m then nl (c + m + 1 + m4 + 1) else gl A6 10 j := by
                  intro j hj
                  rw [gl_sl]
                  by_cases e : j = c + m + 1 + m4
                  · rw [if_pos ⟨rfl, e⟩, if_pos e]
                  · rw [if_neg (fun q => e q.2), if_neg e, (q2.1 j hj).2, gl_sl]
                    by_cases e2 : j = c + m
                    · rw [if_pos ⟨rfl, e2⟩, if_pos e2]
                    · rw [if_neg (fun q => e2 q.2), if_neg e2]
                have rowB1 : ∀ j, j < r + m + 1 + m4 + 1 → gi (si (sl B8 192 (r + m + 1 + m4) (nl (r + m + 1 + m4 + 1 + m8))) 181 31 (gi B 181 31)) 191 j = gi B6 191 j := by
                  intro j hj
                  rw [gi_ne (by omega), gi_sl]
                  exact (q2.2.1 j hj).1
                have rowB3 : ∀ j, j < r + m + 1 + m4 + 1 → gi (si (sl B8 192 (r + m + 1 + m4) (nl (r + m + 1 + m4 + 1 + m8))) 181 31 (gi B 181 31)) 193 j = gi B6 193 j := by
                  intro j hj
                  rw [gi_ne (by omega), gi_sl]
                  exact (q2.2.1 j hj).2.2
                have rowB2 : ∀ j, j < r + m + 1 + m4 + 1 → gl (si (sl B8 192 (r + m + 1 + m4) (nl (r + m + 1 + m4 + 1 + m8))) 181 31 (gi B 181 31)) 192 j = if j = r + m + 1 + m4 then nl (r + m + 1 + m4 + 1 + m8) else if j = r + m then nl (r + m + 1 + m4 + 1) else gl B6 192 j := by
                  intro j hj
                  rw [gl_si, gl_sl]
                  by_cases e : j = r + m + 1 + m4
                  · rw [if_pos ⟨rfl, e⟩, if_pos e]
                  · rw [if_neg (fun q => e q.2), if_neg e, (q2.2.1 j hj).2.1, gl_sl]
                    by_cases e2 : j = r + m
                    · rw [if_pos ⟨rfl, e2⟩, if_pos e2]
                    · rw [if_neg (fun q => e2 q.2), if_neg e2]
                have op1 : gi A6 9 (c + m) = 15 ∧ gi B6 191 (r + m) = 9 := by
                  have a := K46.1 (c + m) (by omega)
                  have b1 := K46.2.1 (r + m) (by omega)
                  have a2 := z2.1 (c + m) (by omega)
                  have b2 := z2.2.1 (r + m) (by omega)
                  rw [a.1, b1.1, a2.1, b2.1, emA_9, if_pos rfl, emB_1, if_pos rfl]
                  exact ⟨rfl, rfl⟩
                have op2 : gi A6 9 (c + m + 1 + m4) = 14 ∧ gi B6 191 (r + m + 1 + m4) = 10 := by
                  rw [← hA6, ← hB6, emA_9, if_pos rfl, emB_1, if_pos rfl]
                  exact ⟨rfl, rfl⟩
                refine ef_cond rfl (o4.kb K19 (Nat.le_refl _) (Nat.le_refl _)) ?_ ?_ ?_ ?_ (m := m4) (l := m8) ?_ ?_ ?_ ?_ ?_ ?_
                · rw [row9 _ (by omega)]; exact op1.1
                · rw [row10 _ (by omega), if_neg (by omega), if_pos rfl]; exact congrArg nl (by omega)
                · rw [rowB1 _ (by omega)]; exact op1.2
                · rw [rowB2 _ (by omega), if_neg (by omega), if_pos rfl]; exact congrArg nl (by omega)
                · refine (EF.cg (z4.kb K46 (Nat.le_refl _) (Nat.le_refl _)) (fun j j1 j2 => ⟨row9 j (by omega), ?_⟩) (fun j j1 j2 => ⟨rowB1 j (by omega), ?_, rowB3 j (by omega)⟩) (fun Y e => q2.2.2.1 Y e) (fun e => q2.2.2.2 e)).mono (by omega)
                  · rw [row10 j (by omega), if_neg (by omega), if_neg (by omega)]
                  · rw [rowB2 j (by omega), if_neg (by omega), if_neg (by omega)]
                · rw [row9 _ (by omega), show c + m + m4 + 1 = c + m + 1 + m4 by omega]; exact op2.1
                · rw [row10 _ (by omega), if_pos (by omega)]; exact congrArg nl (by omega)
                · rw [rowB1 _ (by omega), show r + m + m4 + 1 = r + m + 1 + m4 by omega]; exact op2.2
                · rw [rowB2 _ (by omega), if_pos (by omega)]; exact congrArg nl (by omega)
                · rw [show c + m + m4 + 2 = c + m + 1 + m4 + 1 by omega, show r + m + m4 + 2 = r + m + 1 + m4 + 1 by omega]
                  have q4' := q4.mono (h' := 4 + 3 * (12 - v)) (by omega)
                  refine EF.cg q4' (fun j j1 j2 => ⟨rfl, ?_⟩) (fun j j1 j2 => ⟨?_, ?_, ?_⟩) (fun Y e => e) (fun e => e)
                  · rw [gl_sl, if_neg (by omega)]
                  · rw [gi_ne (by omega), gi_sl]
                  · rw [gl_si, gl_sl, if_neg (by omega)]
                  · rw [gi_ne (by omega), gi_sl]
        · rw [if_neg (ni_nn (b := 63) (x := 63) rfl (by omega) (by omega) hk), takes_n o1 (b := 63) (x := 63) rfl (by omega) (by omega) hk, bS]; dsimp only
          rw [if_pos rfl]
          unfold SJ_X11_formula_107
          rw [o5, back]
          exact ⟨A1, _, rfl, rfl, u3, fB1.trans (frB_f (by omega)), Or.inr ⟨hv, i1, m, r_f31 o1, o2.trans kb_f31 (by omega) (by omega), o3, o4.kb kb_f31 (Nat.le_refl _) (Nat.le_refl _), si_eq⟩⟩
    · -- too deep
      have e13 : v = 13 := by omega
      subst e13
      obtain ⟨A1, B1, r1, r2, r3, r4, r5⟩ := stop h (by omega)
      unfold SB_X4_readChoice SB_X11_formula
      rw [if_neg (show ¬ ni 13 ≤ 12 by decide), r1, bS, h.2.2.2.2.1, if_pos rfl, h31, if_neg (show ¬ ¬ ni (13 - 1) = 12 by simp; rfl), r2, bS]
      exact ⟨A1, B1, rfl, rfl, r3, r4, Or.inl (r5.mono (by omega))⟩
end Cx

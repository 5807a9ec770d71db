-- needs: 74.sclsb 75.num 76.rel 77.cong 78.sim 79.qa 79.qb 79.ra 79.rb 79.rc 79.rd 79.re 79.rf 79.rg 79.rh 79.ri 79.rj 79.rk 79.rl 79.rm 79.rn
-- ===== a check =====
def ckC3 (num : Int64) (M : Mem) : Option (Unit × Mem) :=
  (S_X0_emit (19 : Int32) num M).bind fun w4 =>
  (S_X4_take (59 : Int32) w4.2).bind fun w5 =>
  some ((), w5.2)
def ckC2 (M : Mem) : Option (Unit × Mem) := (S_X4_takeNumber (1 : Int32) (800 : Int32) M).bind fun w3 => ckC3 w3.1 w3.2
def ckC1 (M : Mem) : Option (Unit × Mem) := (S_X4_take (58 : Int32) M).bind fun w2 => ckC2 w2.2
theorem ckC_eq {M : Mem} : S_X4_readCheck M = (S_X4_readChoice 14 (1 : Int32) (si M 7 2 ((gi M 7 2) + (1 : Int32)))).bind fun w1 => ckC1 w1.2 := rfl
theorem BC.ck3 {n T : Nat} {A : Mem} (h : BC n T A) {x : Int64} : ∃ A', ckC3 x A = some ((), A') ∧ BS n T A A' := by
  obtain ⟨x', A2, e1, e2⟩ := h.emit (o := 19) (a := x)
  unfold ckC3
  rw [e1, bS]; dsimp only
  rw [bk_take e2.2.2.2.2.1 (by decide), bS]
  exact ⟨_, rfl, e2⟩
theorem BC.ck2 {n T : Nat} {A : Mem} (h : BC n T A) : ∃ A', ckC2 A = some ((), A') ∧ BS n T A A' := by
  unfold ckC2
  obtain ⟨x, hx⟩ := h.number (u := 1) (v := 800)
  rw [hx, bS]; exact h.ck3
theorem BC.ck1 {n T : Nat} {A : Mem} (h : BC n T A) : ∃ A', ckC1 A = some ((), A') ∧ BS n T A A' := by
  unfold ckC1
  rw [bk_take h.2.2.1 (by decide), bS]; exact h.ck2
theorem wr_number {B : Mem} (h : ¬ gi B 181 11 = 0) : S_X11_takesNumber B = some (0, B) := by
  unfold S_X11_takesNumber SJ_X11_takesNumber_15
  rw [if_pos h, wr_stops h, bS]
section Ck
variable {by_ : Nat → Nat} {n T own : Nat} {wd : Nat → Int64}
theorem lk_check {A B : Mem} {i c r k t s m y d : Nat} (h : R by_ n T own wd i c r A B) (hk : kap by_ n T wd i = 304) (cx : Cx0 A B) (ct : Ct k t (s + 1) m y A B) (hb : c ≤ pfN by_ n i ∧ r ≤ pfN by_ n i ∧ k ≤ pfN by_ n i ∧ t ≤ pfN by_ n i ∧ s ≤ pfN by_ n i ∧ 3 * m ≤ pfN by_ n i) (rl : Rl A B) (cn : Cn own c r k t (s + 1) y A B) :
    ∃ A' B', S_X4_readCheck A = some ((), A') ∧ S_X11_check B = some ((), B') ∧ FrC2 A A' ∧ FrB2 B B' ∧ (Br n T 10 A' B' ∨ StP by_ n T own wd d i c r k t s m y A B A' B') := by
  have p9 := h.p9
  obtain ⟨B1, a1, a2, a3, a4, a5, a6, a7, a8⟩ := adv' h (by omega)
  have w3 := word3 h (w := 4) (by rw [hk]) (by omega)
  have ct1 := ct.fr a4 a5
  have p91 := a2.p9
  rw [ckC_eq]
  unfold S_X11_check
  rw [a1, bS]; dsimp only
  obtain ⟨A2, B2, s1, s2, s3, s4, s5⟩ := lk_whole (qq := 0) a2 ⟨by omega, by rw [si_ff' (by omega)]; exact cx.1⟩ (by omega) (by omega)
  rw [s1, s2, bS, bS]; dsimp only
  have ct2 := ct1.fr s3 s4
  rcases s5 with s5 | ⟨i2, n2, o1, o2, o3, o4, o5⟩
  · have br := br_of s5 (by omega) ct2 (by omega) (by omega) (by omega)
    obtain ⟨A3, c1, c2⟩ := br.1.ck1
    rw [c1, wr_must br.2.1.2.1, bS]; dsimp only
    rw [wr_number br.2.1.2.1, bS]; dsimp only
    rw [if_neg br.2.1.2.1]
    exact ⟨A3, B2, rfl, rfl, (a4.to2.trans s3.to2).trans c2.1, a5.to2.trans s4.to2, Or.inl (br.go c2 (br.2.1.mono (by omega)).rf)⟩
  · have p92 := o1.p9
    obtain ⟨x, A3, B3, l1, l2, l3, l4, l5⟩ := lk_take o1 (by omega) (b := 58) (x := 58) rfl (by omega) (by omega)
    unfold ckC1
    rw [l1, l2, bS, bS]; dsimp only
    have ct3 := ct2.fr l3 l4
    rcases l5 with l5 | ⟨l5, l6, l7, l8, l9⟩
    · have br := br_of l5 (by omega) ct3 (by omega) (by omega) (by omega)
      obtain ⟨A4, c1, c2⟩ := br.1.ck2
      rw [c1, wr_number br.2.1.2.1, bS]; dsimp only
      rw [if_neg br.2.1.2.1]
      exact ⟨A4, B3, rfl, rfl, ((a4.to2.trans s3.to2).trans l3.to2).trans c2.1, (a5.to2.trans s4.to2).trans l4.to2, Or.inl (br.go c2 (br.2.1.mono (by omega)).rf)⟩
    · have p93 := l8.p9
      have kb23 : ∀ {c' r'}, Kb c' r' A2 B2 A3 B3 := by intro c' r'; rw [l6]; exact kb_adv l7
      unfold ckC2
      have f03 : FrC A A3 := (a4.trans s3).trans l3
      have g03 : FrB B B3 := (a5.trans s4).trans l4
      have kb03 : Kb c r A B A3 B3 := (a6.trans o2 (Nat.le_refl _) (Nat.le_refl _)).trans kb23 (Nat.le_refl _) (Nat.le_refl _)
      rcases lk_number (hi := 800) l8 (by omega) (by omega) with ⟨x, z, A4, B4, g1, g2, g3, g4, g5⟩ | ⟨A4, B4, Bm', q, g1, g2, g3, g4, g5, g6, g7, g8, g9, g10, g11⟩
      · have br := br_of g5 (by omega) (ct3.fr g3 g4) (by omega) (by omega) (by omega)
        have g1 : S_X4_takeNumber 1 800 A3 = some (x, A4) := g1
        obtain ⟨A5, c1, c2⟩ := br.1.ck3 (x := x)
        rw [g1, g2, bS, bS]; dsimp only
        rw [c1, if_neg br.2.1.2.1]
        exact ⟨A5, B4, rfl, rfl, (f03.to2.trans g3.to2).trans c2.1, g03.to2.trans g4.to2, Or.inl (br.go c2 (br.2.1.mono (by omega)).rf)⟩
      · have g1 : S_X4_takeNumber 1 800 A3 = some (nl q, A4) := g1
        rw [g1, g2, bS, bS]; dsimp only
        rw [if_pos g3]
        have e86 : (if ni q < (1 : Int32) then SJ_X11_check_49 (gi B1 181 27) (gi B3 181 7) (ni q) Bm' else if ni q ≤ 800 then SJ_X11_check_55 (gi B1 181 27) (ni q) Bm' else SJ_X11_check_49 (gi B1 181 27) (gi B3 181 7) (ni q) Bm') = SJ_X11_check_55 (gi B1 181 27) (ni q) B4 := g5 (SJ_X11_check_55 (gi B1 181 27) (ni q))
        rw [e86, a2.2.2.2.2.2.2.2.2.1]
        have ct4 := ct3.fr g6 g7
        have p94 := g8.p9
        unfold ckC3 SJ_X11_check_55
        rw [emC_eq g8.2.2.2.2.2.2.2.1 (by omega), bS]; dsimp only
        have r5 := r_emA (o := 19) (a := nl q) g8
        obtain ⟨x, A6, B6, z1, z2, z3, z4, z5⟩ := lk_take r5 (by omega) (b := 59) (x := 59) rfl (by omega) (by omega)
        rw [z1, z2, bS, bS]; dsimp only
        have f06 : FrC A A6 := ((f03.trans g6).trans emA_fr).trans z3
        have g06 : FrB B B6 := (g03.trans g7).trans z4
        have ct6 := ct.fr f06 g06
        rcases z5 with z5 | ⟨z5, z6, z7, z8, z9⟩
        · have br := br_of z5 (by omega) ct6 (by omega) (by omega) (by omega)
          obtain ⟨B7, w4, w5⟩ := br.2.1.mark (by omega) (x := 1) (y := ni r) (z := ni q)
          rw [w4, bS]
          exact ⟨A6, B7, rfl, rfl, f06.to2, g06.to2.trans w5.1, Or.inl (br.go br.1.rf ⟨w5.1, w5.2.1, w5.2.2.mono (by omega)⟩)⟩
        · have p96 := z8.p9
          have kb56 : ∀ {c' r'}, Kb c' r' (emA A4 (c + n2) 19 (nl q)) B4 A6 B6 := by intro c' r'; rw [z6]; exact kb_adv z7
          have kb26 : Kb (c + n2) (r + n2 + 1) A2 B2 A6 B6 := ((kb23.trans g9 (Nat.le_refl _) (Nat.le_refl _)).trans kb_emA (Nat.le_refl _) (Nat.le_refl _)).trans kb56 (Nat.le_refl _) (Nat.le_refl _)
          have kb06 : Kb c r A B A6 B6 := (a6.trans o2 (Nat.le_refl _) (Nat.le_refl _)).trans kb26 (by omega) (by omega)
          rw [mark_eq ct6.2.2.2.1 (by omega), bS]
          have r7 := rB_si (a := 181) (j := 21) (x := ni (m + 1)) (rB_si (a := 190) (j := m) (x := ni q) (rB_si (a := 189) (j := m) (x := ni r) (rB_si (a := 188) (j := m) (x := 1) z8 (by omega)) (by omega)) (by omega)) (by omega)
          have k7 : KO (c + n2 + 1) (r + n2 + 1) m y A6 B6 A6 (si (si (si (si B6 188 m 1) 189 m (ni r)) 190 m (ni q)) 181 21 (ni (m + 1))) :=
            (((koB_si (by omega)).trans (koB_si (by omega)) (Nat.le_refl _) (Nat.le_refl _) (Nat.le_refl _) (Nat.le_refl _)).trans (koB_si (by omega)) (Nat.le_refl _) (Nat.le_refl _) (Nat.le_refl _) (Nat.le_refl _)).trans (koB_si (by omega)) (Nat.le_refl _) (Nat.le_refl _) (Nat.le_refl _) (Nat.le_refl _)
          have kf := (ko_fr (m := m) (y := y) f06 g06 kb06).trans k7 (by omega) (by omega) (Nat.le_refl _) (Nat.le_refl _)
          have fld : ∀ j, j ≠ 21 → gi (si (si (si (si B6 188 m 1) 189 m (ni r)) 190 m (ni q)) 181 21 (ni (m + 1))) 181 j = gi B6 181 j := fun j hj => by
            rw [si_ff' hj, gi_ne (by omega), gi_ne (by omega), gi_ne (by omega)]
          have rws : ∀ a, a ≠ 181 → a ≠ 188 → a ≠ 189 → a ≠ 190 → gi (si (si (si (si B6 188 m 1) 189 m (ni r)) 190 m (ni q)) 181 21 (ni (m + 1))) a = gi B6 a := fun a a1 a2 a3 a4 => by
            rw [gi_ne a1, gi_ne a4, gi_ne a3, gi_ne a2]
          have mk : gi (si (si (si (si B6 188 m 1) 189 m (ni r)) 190 m (ni q)) 181 21 (ni (m + 1))) 188 m = 1 ∧ gi (si (si (si (si B6 188 m 1) 189 m (ni r)) 190 m (ni q)) 181 21 (ni (m + 1))) 189 m = ni r ∧ gi (si (si (si (si B6 188 m 1) 189 m (ni r)) 190 m (ni q)) 181 21 (ni (m + 1))) 190 m = ni q := by
            refine ⟨?_, ?_, ?_⟩
            · rw [gi_ne (by omega), gi_ne (by omega), gi_ne (by omega), si_eq]
            · rw [gi_ne (by omega), gi_ne (by omega), si_eq]
            · rw [gi_ne (by omega), si_eq]
          have m21 : gi (si (si (si (si B6 188 m 1) 189 m (ni r)) 190 m (ni q)) 181 21 (ni (m + 1))) 181 21 = ni (m + 1) := si_eq
          have l7 : gl (si (si (si (si B6 188 m 1) 189 m (ni r)) 190 m (ni q)) 181 21 (ni (m + 1))) = gl B6 := rfl
          generalize si (si (si (si B6 188 m 1) 189 m (ni r)) 190 m (ni q)) 181 21 (ni (m + 1)) = B7 at *
          refine ⟨_, _, rfl, rfl, kf.1, kf.2.1, Or.inr ⟨i2 + 1 + 1 + 1, c + n2 + 1, r + n2 + 1, t, s + 1, m + 1, y, r7, ⟨?_, ?_, ?_⟩, ⟨⟨ct6.1.1, ?_⟩, ⟨ct6.2.1.1, ?_⟩, ⟨ct6.2.2.1.1, ?_⟩, m21, ct6.2.2.2.2⟩, ⟨by omega, by omega, by omega, by omega, by omega, by omega⟩, ⟨by omega, by omega, by omega, by omega, by omega, by omega, by omega⟩, ?_, ?_, kf, ?_⟩⟩
          · rw [f06.2.2.2.1 4 (by omega) (by omega) (by omega) (by omega)]; exact cx.1
          · rw [fld 33 (by omega), g06.2.2.2.1 33 (by omega)]; exact cx.2.1
          · rw [fld 34 (by omega), g06.2.2.2.1 34 (by omega)]; exact cx.2.2
          · rw [fld 15 (by omega)]; exact ct6.1.2
          · rw [fld 18 (by omega)]; exact ct6.2.1.2
          · rw [fld 22 (by omega)]; exact ct6.2.2.1.2
          · unfold Rl
            rw [f06.2.2.2.2 3 (by omega) (by omega), fld 26 (by omega), g06.2.2.2.1 26 (by omega)]; exact rl
          · refine cn.cg kf.2.2.2.1 (by omega) (by omega) (fun e => ?_) (f06.2.2.1 11 (by omega)) (f06.2.1 12 (by omega) (by omega) (by omega)) (f06.2.2.1 13 (by omega)) (f06.2.1 14 (by omega) (by omega) (by omega)) (f06.2.2.2.2 3 (by omega) (by omega)) ?_ ?_ ?_ ?_ ?_
            · have e0 : gi A 7 6 = 0 := Classical.byContradiction fun z => kf.2.2.2.1.2.2.2 z e
              exact ⟨(cn e0).2.2.1, (cn e0).2.2.2.1⟩
            · rw [l7]; exact g06.2.2.1 184 (by omega) (by omega)
            · rw [rws 185 (by omega) (by omega) (by omega) (by omega)]; exact g06.2.1 185 (by omega) (by omega) (by omega)
            · rw [l7]; exact g06.2.2.1 186 (by omega) (by omega)
            · rw [rws 187 (by omega) (by omega) (by omega) (by omega)]; exact g06.2.1 187 (by omega) (by omega) (by omega)
            · rw [fld 26 (by omega)]; exact g06.2.2.2.1 26 (by omega)
          · intro e0
            refine ⟨?_, by omega, f06.2.2.1 11 (by omega), f06.2.1 12 (by omega) (by omega) (by omega), f06.2.2.2.2 3 (by omega) (by omega), by rw [l7]; exact g06.2.2.1 184 (by omega) (by omega), by rw [rws 185 (by omega) (by omega) (by omega) (by omega)]; exact g06.2.1 185 (by omega) (by omega) (by omega), by rw [fld 26 (by omega)]; exact g06.2.2.2.1 26 (by omega)⟩
            have e4 : gi A4 7 6 = 0 := Classical.byContradiction fun z => ((kb_emA (c := c + n2) (r := r + n2 + 1)).trans kb56 (Nat.le_refl _) (Nat.le_refl _) : Kb (c + n2) (r + n2 + 1) A4 B4 A6 B6).2.2.2 z e0
            have kb27 : Kb (c + n2) (r + n2 + 1) A2 B2 A6 B7 := kb26.trans k7.2.2.2.1 (by omega) (by omega)
            have ef := o4.kb kb27 (Nat.le_refl _) (by omega)
            have row2 : gi A6 9 (c + n2) = 19 ∧ gl A6 10 (c + n2) = nl q := by
              have q := (kb56 (c' := c + n2 + 1) (r' := 0)).1 (c + n2) (by omega)
              rw [q.1, q.2, emA_9, if_pos rfl, emA_10, if_pos rfl]
              exact ⟨rfl, rfl⟩
            have row3 : gi B7 191 (r + n2) = 11 := (kb27.2.1 (r + n2) (by omega)).1.trans o5
            intro o a w v z ld sk sa sw ts te es nt h1 h2 h3 h4 h5 h6
            have q2 := h1 (c + n2) (by omega) (by omega)
            have q3 := h4 m (by omega) (by omega)
            have q4 := h2 (r + n2) (by omega)
            have K := t2_tr own ld o a w v z sk sa sw ts te es nt
            have fin := K.1 d (c + n2 + 1) (m + 1) y
            exact K.2.2.2.1 d c (c + n2 + 1) m (m + 1) y y r n2 q (ef e0 o a w v z ld (fun j j1 j2 => h1 j (by omega) (by omega)) (fun j j1 j2 => h2 j (by omega)) h3) (q2.1.trans row2.1) (q2.2.trans row2.2) (g11 e4).1 (g11 e4).2 (q4.1.trans row3) (by omega) (q3.1.trans mk.1) (q3.2.1.trans mk.2.1) (q3.2.2.trans mk.2.2) fin
end Ck

-- needs: 74.sclsb 75.num 76.rel 77.cong 78.sim 79.qa 79.qb 79.ra 79.rb 79.rc 79.rd 79.re 79.rf 79.rg 79.rh 79.ri 79.rj 79.rk 79.rl 79.rm 79.rn 79.ro
-- ===== a rule =====
def ruC3 (j : Int32) (M : Mem) : Option (Unit × Mem) :=
  (S_X0_emit (20 : Int32) (0 : Int64) M).bind fun w3 =>
  (S_X0_landHere j w3.2).bind fun w4 =>
  (S_X4_take (59 : Int32) w4.2).bind fun w5 =>
  some ((), w5.2)
theorem ruC_eq {M : Mem} : SJ_X4_readRule_20 M = (S_X0_emit (14 : Int32) (0 : Int64) (si M 7 2 ((gi M 7 2) + (1 : Int32)))).bind fun w1 =>
  (S_X4_readChoice 14 (1 : Int32) (si (si w1.2 8 3 (gi w1.2 8 6)) 7 4 (2 : Int32))).bind fun w2 => ruC3 w1.1 (si w2.2 7 4 (0 : Int32)) := rfl
theorem BC.ru3 {n T : Nat} {A : Mem} (h : BC n T A) {j : Int32} : ∃ A', ruC3 j A = some ((), A') ∧ BS n T A A' := by
  obtain ⟨x', A2, e1, e2⟩ := h.emit (o := 20) (a := 0)
  obtain ⟨A3, l1, l2⟩ := e2.2.2.land (j := j)
  unfold ruC3
  rw [e1, bS]; dsimp only
  rw [l1, bS]; dsimp only
  rw [bk_take l2.2.2.2.2.1 (by decide), bS]
  exact ⟨_, rfl, e2.tr l2⟩
section Ru
variable {by_ : Nat → Nat} {n T own : Nat} {wd : Nat → Int64}
/-- the whole state between parts -/
def Ou (by_ : Nat → Nat) (n T own : Nat) (wd : Nat → Int64) (i c r k t s m y : Nat) (A B : Mem) : Prop := R by_ n T own wd i c r A B ∧ Cx0 A B ∧ Ct k t s m y A B ∧ (c ≤ pfN by_ n i ∧ r ≤ pfN by_ n i ∧ k ≤ pfN by_ n i ∧ t ≤ pfN by_ n i ∧ s ≤ pfN by_ n i ∧ 3 * m ≤ pfN by_ n i) ∧ Rl A B ∧ Cn own c r k t s y A B
/-- what a part (a const, the rule) comes to -/
def PaP (by_ : Nat → Nat) (n T own : Nat) (wd : Nat → Int64) (i c r k t s m y : Nat) (A B A' B' : Mem) : Prop := ∃ i' c' r' k', Ou by_ n T own wd i' c' r' k' t s m y A' B' ∧ (c ≤ c' ∧ r ≤ r' ∧ pfN by_ n i < pfN by_ n i') ∧ KO c r m y A B A' B' ∧ TS own 3 c c' m m y y r' t A' B'
theorem lk_rule {A B : Mem} {i c r k t s m y : Nat} (h : Ou by_ n T own wd i c r k t s m y A B) (hk : kap by_ n T wd i = 302) :
    ∃ A' B', S_X4_readRule A = some ((), A') ∧ S_X11_rule B = some ((), B') ∧ FrC2 A A' ∧ FrB2 B B' ∧ (Br n T 10 A' B' ∨ PaP by_ n T own wd i c r k t s m y A B A' B') := by
  obtain ⟨h, cx, ct, hb, rl, cn⟩ := h
  have p9 := h.p9
  obtain ⟨A1, B1, f1, f2, f3, f4, f5, f6, f7⟩ : ∃ A1 B1, S_X4_readRule A = SJ_X4_readRule_20 A1 ∧ S_X11_rule B = SJ_X11_rule_16 B1 ∧ FrC A A1 ∧ FrB B B1 ∧ R by_ n T own wd i c r A1 B1 ∧ Kb c r A B A1 B1 ∧ (gi B 181 26 = -1 ∨ ¬ gi A1 7 6 = 0) := by
    unfold S_X4_readRule S_X11_rule
    rcases rl with ⟨q1, q2⟩ | ⟨⟨a, a1, a2⟩, ⟨b, b1, b2⟩⟩
    · rw [if_pos q1, q2, if_pos (by decide)]
      exact ⟨A, B, rfl, rfl, FrC.rf, FrB.rf, h, Kb.rf, Or.inl rfl⟩
    · obtain ⟨A1, B1, q1, q2, q3, q4, q5, q6, q7⟩ := tellw (kk := 2) h (by omega) (by rw [hk]; rfl) (by omega) (by omega)
      rw [a2, if_neg (ni_ne1 (by omega)), b2, if_neg (ni_n0 (by omega))]
      have q1' : ((S_X4_place A).bind fun w6 => (S_X4_note (2 : Int32) w6.1 w6.2).bind fun w7 => SJ_X4_readRule_20 w7.2) = SJ_X4_readRule_20 A1 := by
        rw [place_eq h, bS] at q1 ⊢
        have q1 : S_X4_note 2 (ni (pfN by_ n i)) A = some ((), A1) := q1
        dsimp only
        rw [q1, bS]
      have q2 : S_X11_tells 2 (gi B 181 7) B = some ((), B1) := q2
      rw [q1', q2, bS]
      exact ⟨A1, B1, rfl, rfl, q3, q4, q5, q6, Or.inr q7⟩
  rw [f1, f2, ruC_eq]
  obtain ⟨B2, a1, a2, a3, a4, a5, a6, a7, a8⟩ := adv' f5 (by omega)
  have w3 := word3 f5 (w := 2) (by rw [hk]) (by omega)
  have p92 := a2.p9
  unfold SJ_X11_rule_16
  rw [a1, bS]; dsimp only
  rw [emC_eq a2.2.2.2.2.2.2.2.1 (by omega), bS]; dsimp only
  rw [show gi (emA (si A1 7 2 (gi A1 7 2 + 1)) c 14 0) 8 6 = ni (c + 1) from si_eq]
  have r3 := r_emA (o := 14) (a := 0) a2
  have r4 := rC_si (a := 8) (j := 3) (x := ni (c + 1)) r3 (by omega)
  have c2 : gi B2 181 33 = 0 ∧ gi B2 181 34 = 0 := ⟨by rw [a5.2.2.2.1 33 (by omega), f4.2.2.2.1 33 (by omega)]; exact cx.2.1, by rw [a5.2.2.2.1 34 (by omega), f4.2.2.2.1 34 (by omega)]; exact cx.2.2⟩
  have r5 := r_ctx (x := 2) (y := 1) (f := 34) r4 (by omega) (by rw [si_eq, si_ff' (by omega), c2.1]; decide)
  obtain ⟨A6, B6, s1, s2, s3, s4, s5⟩ := lk_whole (qq := 2) r5 ⟨by omega, si_eq⟩ (by omega) (by omega)
  rw [s1, s2, bS, bS]; dsimp only
  have f02 : FrC A (si A1 7 2 (gi A1 7 2 + 1)) := f3.trans a4
  have g02 : FrB B B2 := f4.trans a5
  have ct2 := ct.fr f02 g02
  have kb02 : Kb c r A B (si A1 7 2 (gi A1 7 2 + 1)) B2 := f6.trans a6 (Nat.le_refl _) (Nat.le_refl _)
  have k05 : KO c r m y A B (si (si (emA (si A1 7 2 (gi A1 7 2 + 1)) c 14 0) 8 3 (ni (c + 1))) 7 4 2) (si B2 181 34 1) :=
    ((((ko_fr f02 g02 kb02).trans (ko_fr emA_fr FrB.rf kb_emA) (Nat.le_refl _) (Nat.le_refl _) (Nat.le_refl m) (Nat.le_refl y)).trans (koC_si (by omega)) (Nat.le_refl _) (Nat.le_refl _) (Nat.le_refl _) (Nat.le_refl _)).trans (koC_si (by omega)) (Nat.le_refl _) (Nat.le_refl _) (Nat.le_refl _) (Nat.le_refl _)).trans (koB_si (by omega)) (Nat.le_refl _) (Nat.le_refl _) (Nat.le_refl _) (Nat.le_refl _)
  have e6C : ∀ j, j ≠ 1 → j ≠ 6 → j ≠ 3 → gi A6 8 j = gi A 8 j := fun j j1 j2 j3 => by
    rw [s3.2.2.2.2 j j1 j2, gi_ne (by omega), si_ff' j3, emA_f (by omega) (by omega)]; exact f02.2.2.2.2 j j1 j2
  have e6B : ∀ j, (11 < j ∧ j < 27) ∨ j = 33 → gi B6 181 j = gi B 181 j := fun j hj => by
    rw [s4.2.2.2.1 j (by omega), si_ff' (by omega)]; exact g02.2.2.2.1 j (by omega)
  have ct6 : Ct k t s m y A6 B6 := by
    unfold Ct at ct ⊢
    rw [e6C 9 (by omega) (by omega) (by omega), e6C 12 (by omega) (by omega) (by omega), e6C 2 (by omega) (by omega) (by omega), e6C 16 (by omega) (by omega) (by omega), e6B 15 (by omega), e6B 18 (by omega), e6B 22 (by omega), e6B 21 (by omega)]; exact ct
  have fin : ∀ B', WB 0 B' → (∃ B'', (if 0 ≤ gi B' 181 26 then some ((), B') else some ((), si B' 181 26 (gi B2 181 27))) = some ((), B'') ∧ WS 0 B' B'') := fun B' hw => by
    by_cases e : 0 ≤ gi B' 181 26
    · rw [if_pos e]; exact ⟨_, rfl, hw.rf⟩
    · rw [if_neg e]; exact ⟨_, rfl, hw.f (by omega)⟩
  rcases s5 with s5 | ⟨i6, n6, o1, o2, o3, o4, o5⟩
  · have br := br_of s5 (by omega) ct6 (by omega) (by omega) (by omega)
    have b7 := br.1.wi (a := 7) (j := 4) (x := 0) (by omega) (by omega) (by omega)
    obtain ⟨A8, c1, c3⟩ := b7.2.2.ru3 (j := ni c)
    have w7 := br.2.1.f (j := 34) (x := 0) (by omega)
    obtain ⟨B8, v1, v2⟩ := fin _ w7.2.2
    rw [c1, wr_must w7.2.2.2.1, bS]; dsimp only
    rw [v1]
    have ws := w7.tr v2
    exact ⟨A8, B8, rfl, rfl, ((k05.1.trans s3.to2).trans b7.1).trans c3.1, (k05.2.1.trans s4.to2).trans ws.1, Or.inl (br.go (b7.tr c3) ⟨ws.1, ws.2.1, ws.2.2.mono (by omega)⟩)⟩
  · have p96 := o1.p9
    have c6 : gi B6 181 33 = 0 := by rw [e6B 33 (by omega)]; exact cx.2.1
    have r7 := r_ctx (x := 0) (y := 0) (f := 34) o1 (by omega) (by rw [si_eq, si_ff' (by omega), c6]; decide)
    unfold ruC3
    rw [emC_eq r7.2.2.2.2.2.2.2.1 (by omega), bS]; dsimp only
    have r8 := r_emA (o := 20) (a := 0) r7
    rw [land_eq r8.2.2.2.2.2.2.2.1 (by omega) (by omega), bS]; dsimp only
    have r9 := rC_sl (a := 10) (j := c) (x := nl (c + 1 + n6 + 1)) r8 (by omega)
    obtain ⟨x, A10, B10, z1, z2, z3, z4, z5⟩ := lk_take r9 (by omega) (b := 59) (x := 59) rfl (by omega) (by omega)
    rw [z1, z2, bS, bS]; dsimp only
    have e10C : ∀ j, j ≠ 1 → j ≠ 6 → gi A10 8 j = gi A6 8 j := fun j j1 j2 => by
      rw [z3.2.2.2.2 j j1 j2, gi_sl, emA_f (by omega) (by omega), gi_ne (by omega)]
    have e10B : ∀ j, (11 < j ∧ j < 27) ∨ j = 33 → gi B10 181 j = gi B 181 j := fun j hj => by
      rw [z4.2.2.2.1 j (by omega), si_ff' (by omega)]; exact e6B j hj
    have k06 : KO c r m y A B A6 B6 := k05.trans (ko_fr s3 s4 o2) (by omega) (Nat.le_refl _) (Nat.le_refl m) (Nat.le_refl y)
    have k07 : KO c r m y A B (si A6 7 4 0) (si B6 181 34 0) := (k06.trans (koC_si (by omega)) (Nat.le_refl _) (Nat.le_refl _) (Nat.le_refl _) (Nat.le_refl _)).trans (koB_si (by omega)) (Nat.le_refl _) (Nat.le_refl _) (Nat.le_refl _) (Nat.le_refl _)
    have kbL : Kb c r (emA (si A6 7 4 0) (c + 1 + n6) 20 0) (si B6 181 34 0) (sl (emA (si A6 7 4 0) (c + 1 + n6) 20 0) 10 c (nl (c + 1 + n6 + 1))) (si B6 181 34 0) := by
      refine ⟨fun j hj => ⟨rfl, ?_⟩, fun _ _ => ⟨rfl, rfl, rfl⟩, fun _ e => e, fun e => e⟩
      rw [gl_sl, if_neg (by omega)]
    have k09 : KO c r m y A B (sl (emA (si A6 7 4 0) (c + 1 + n6) 20 0) 10 c (nl (c + 1 + n6 + 1))) (si B6 181 34 0) := (k07.trans (ko_fr emA_fr FrB.rf (kb_emA (r := r))) (by omega) (Nat.le_refl _) (Nat.le_refl m) (Nat.le_refl y)).trans (ko_fr frC_10 FrB.rf kbL) (Nat.le_refl _) (Nat.le_refl _) (Nat.le_refl m) (Nat.le_refl y)
    have ct10 : Ct k t s m y A10 B10 := by
      unfold Ct at ct6 ⊢
      rw [e10C 9 (by omega) (by omega), e10C 12 (by omega) (by omega), e10C 2 (by omega) (by omega), e10C 16 (by omega) (by omega), e10B 15 (by omega), e10B 18 (by omega), e10B 22 (by omega), e10B 21 (by omega), ← e6B 15 (by omega), ← e6B 18 (by omega), ← e6B 22 (by omega), ← e6B 21 (by omega)]; exact ct6
    rcases z5 with z5 | ⟨z5, z6, z7, z8, z9⟩
    · have br := br_of z5 (by omega) ct10 (by omega) (by omega) (by omega)
      obtain ⟨B8, v1, v2⟩ := fin _ br.2.1
      rw [v1]
      exact ⟨A10, B8, rfl, rfl, k09.1.trans z3.to2, (k09.2.1.trans z4.to2).trans v2.1, Or.inl (br.go br.1.rf ⟨v2.1, v2.2.1, v2.2.2.mono (by omega)⟩)⟩
    · have p10 := z8.p9
      have kb910 : ∀ {c' r'}, Kb c' r' (sl (emA (si A6 7 4 0) (c + 1 + n6) 20 0) 10 c (nl (c + 1 + n6 + 1))) (si B6 181 34 0) A10 B10 := by intro c' r'; rw [z6]; exact kb_adv z7
      have k10 : KO c r m y A B A10 B10 := k09.trans (ko_fr z3 z4 kb910) (Nat.le_refl _) (Nat.le_refl _) (Nat.le_refl m) (Nat.le_refl y)
      -- the reference keeps the first rule's place
      obtain ⟨B11, v1, hv, r11, k11⟩ : ∃ B11, (if 0 ≤ gi B10 181 26 then some ((), B10) else some ((), si B10 181 26 (gi B2 181 27))) = some ((), B11) ∧ ((gi B 181 26 = -1 → gi B11 181 26 = ni r) ∧ (∃ b, b < 3000 ∧ gi B11 181 26 = ni b) ∧ (∀ j, j ≠ 26 → gi B11 181 j = gi B10 181 j) ∧ (∀ a, a ≠ 181 → gi B11 a = gi B10 a) ∧ gl B11 = gl B10) ∧ R by_ n T own wd (i6 + 1) (c + 1 + n6 + 1) (r + n6 + 1) A10 B11 ∧ KO (c + 1 + n6 + 1) (r + n6 + 1) m y A10 B10 A10 B11 := by
        rcases rl with ⟨q1, q2⟩ | ⟨⟨a, a1', a2'⟩, ⟨b, b1, b2⟩⟩
        · rw [e10B 26 (by omega), q2, if_neg (by decide), a2.2.2.2.2.2.2.2.2.1]
          exact ⟨_, rfl, ⟨fun _ => si_eq, ⟨r, by omega, si_eq⟩, fun j hj => si_ff' hj, fun a ha => gi_ne ha, rfl⟩, rB_si z8 (by omega), koB_si (by omega)⟩
        · rw [e10B 26 (by omega), b2, if_pos (show (0 : Int32) ≤ ni b from (ni_le (a := 0) (by omega) (by omega)).mpr (by omega))]
          exact ⟨_, rfl, ⟨fun e => absurd e (ni_ne1 (by omega)), ⟨b, b1, by rw [e10B 26 (by omega), b2]⟩, fun j hj => rfl, fun a ha => rfl, rfl⟩, z8, KO.rf⟩
      rw [v1]
      have kf : KO c r m y A B A10 B11 := k10.trans k11 (by omega) (by omega) (Nat.le_refl _) (Nat.le_refl _)
      have kb6 : Kb (c + 1 + n6) (r + n6 + 1) (si A6 7 4 0) (si B6 181 34 0) (emA (si A6 7 4 0) (c + 1 + n6) 20 0) (si B6 181 34 0) := kb_emA
      -- the formula, in the end
      have rowsA : ∀ j, c < j → j < c + 1 + n6 + 1 → gi A10 9 j = gi (emA (si A6 7 4 0) (c + 1 + n6) 20 0) 9 j ∧ gl A10 10 j = gl (emA (si A6 7 4 0) (c + 1 + n6) 20 0) 10 j := fun j j1 j2 => by
        have q := (kb910 (c' := c + 1 + n6 + 1) (r' := 0)).1 j j2
        rw [q.1, q.2, gi_sl, gl_sl, if_neg (by omega)]; exact ⟨rfl, rfl⟩
      have rowsB : ∀ j, j < r + n6 + 1 → gi B11 191 j = gi B6 191 j ∧ gl B11 192 j = gl B6 192 j ∧ gi B11 193 j = gi B6 193 j := fun j hj => by
        rw [hv.2.2.2.1 191 (by omega), hv.2.2.2.1 193 (by omega), hv.2.2.2.2]
        have q := (kb910 (c' := 0) (r' := r + n6 + 1)).2.1 j hj
        rw [q.1, q.2.1, q.2.2, gi_ne (by omega), gi_ne (by omega)]; exact ⟨rfl, rfl, rfl⟩
      have ldm : ∀ Y, bt (gi A6 8 1) Y = true → bt (gi A10 8 1) Y = true := fun Y e => (kb910 (c' := 0) (r' := 0)).2.2.1 Y (by rw [gi_sl, emA_f (by omega) (by omega), gi_ne (by omega)]; exact e)
      have ef : EF (false, 2) own (c + 1) r n6 37 A10 B11 := o4.cg (fun j j1 j2 => by
          have q := rowsA j (by omega) (by omega)
          rw [q.1, q.2, emA_9, if_neg (by omega), emA_10, if_neg (by omega), gi_ne (by omega)]; exact ⟨rfl, rfl⟩) (fun j j1 j2 => rowsB j (by omega)) ldm (fun e => (kb910 (c' := 0) (r' := 0)).2.2.2 (by rw [gi_sl, emA_f (by omega) (by omega), si_ff' (by omega)]; exact e))
      have row20 : gi A10 9 (c + 1 + n6) = 20 := by rw [(rowsA (c + 1 + n6) (by omega) (by omega)).1, emA_9, if_pos rfl]
      have row14 : gi A10 9 c = 14 ∧ gl A10 10 c = nl (c + 1 + n6 + 1) := by
        have q := (kb910 (c' := c + 1) (r' := 0)).1 c (by omega)
        rw [q.1, q.2, gi_sl, gl_sl, if_pos ⟨rfl, rfl⟩, emA_9, if_neg (by omega), gi_ne (by omega), (o2.1 c (by omega)).1, gi_ne (by omega), gi_ne (by omega), emA_9, if_pos rfl]
        exact ⟨rfl, rfl⟩
      have e83 : gi A10 8 3 = ni (c + 1) := by rw [e10C 3 (by omega) (by omega), s3.2.2.2.2 3 (by omega) (by omega), gi_ne (by omega), si_eq]
      refine ⟨_, _, rfl, rfl, kf.1, kf.2.1, Or.inr ⟨i6 + 1, c + 1 + n6 + 1, r + n6 + 1, k, ⟨r11, ⟨?_, ?_, ?_⟩, ?_, ⟨by omega, by omega, by omega, by omega, by omega, by omega⟩, ?_, ?_⟩, ⟨by omega, by omega, by omega⟩, kf, ?_⟩⟩
      · rw [z3.2.2.2.1 4 (by omega) (by omega) (by omega) (by omega), gi_sl, emA_f (by omega) (by omega), si_eq]
      · rw [hv.2.2.1 33 (by omega), e10B 33 (by omega)]; exact cx.2.1
      · rw [hv.2.2.1 34 (by omega), z4.2.2.2.1 34 (by omega), si_eq]
      · unfold Ct at ct10 ⊢
        rw [hv.2.2.1 15 (by omega), hv.2.2.1 18 (by omega), hv.2.2.1 22 (by omega), hv.2.2.1 21 (by omega)]; exact ct10
      · exact Or.inr ⟨⟨c + 1, by omega, e83⟩, hv.2.1⟩
      · intro e0
        have e1 : gi A1 7 6 = 0 := Classical.byContradiction fun z => by
          have kb1 : Kb c r A1 B1 A10 B11 := ((((((a6.trans kb_emA (Nat.le_refl _) (Nat.le_refl _)).trans (koC_si (m := 0) (y := 0) (a := 8) (j := 3) (by omega)).2.2.2.1 (Nat.le_refl _) (Nat.le_refl _)).trans (koC_si (m := 0) (y := 0) (a := 7) (j := 4) (by omega)).2.2.2.1 (Nat.le_refl _) (Nat.le_refl _)).trans (koB_si (m := 0) (y := 0) (a := 181) (j := 34) (by omega)).2.2.2.1 (Nat.le_refl _) (Nat.le_refl _)).trans o2 (by omega) (Nat.le_refl _)).trans (((koC_si (m := 0) (y := 0) (a := 7) (j := 4) (by omega)).2.2.2.1.trans (koB_si (m := 0) (y := 0) (a := 181) (j := 34) (by omega)).2.2.2.1 (Nat.le_refl _) (Nat.le_refl _)).trans (kb_emA (c := c + 1 + n6) (r := r)) (Nat.le_refl _) (Nat.le_refl _)) (by omega) (Nat.le_refl _)).trans ((kbL.trans kb910 (Nat.le_refl _) (Nat.le_refl _)).trans k11.2.2.2.1 (by omega) (by omega)) (by omega) (Nat.le_refl _)
          exact kb1.2.2.2 z e0
        have e26 : gi B 181 26 = -1 := by
          rcases f7 with q | q
          · exact q
          · exact absurd e1 q
        have ea : gi A 7 6 = 0 := Classical.byContradiction fun z => kf.2.2.2.1.2.2.2 z e0
        obtain ⟨⟨h1, h2⟩, ⟨h3, h4⟩, h5, h6, h7⟩ := cn ea
        have cA : gl A10 11 = gl A 11 ∧ gi A10 12 = gi A 12 ∧ gl A10 13 = gl A 13 ∧ gi A10 14 = gi A 14 := by
          refine ⟨?_, ?_, ?_, ?_⟩
          · rw [z3.2.2.1 11 (by omega), gl_ne (by omega), emA_fr.2.2.1 11 (by omega), gl_si', s3.2.2.1 11 (by omega), gl_si', gl_si', emA_fr.2.2.1 11 (by omega)]; exact f02.2.2.1 11 (by omega)
          · rw [z3.2.1 12 (by omega) (by omega) (by omega), show gi (sl (emA (si A6 7 4 0) (c + 1 + n6) 20 0) 10 c (nl (c + 1 + n6 + 1))) 12 = gi (emA (si A6 7 4 0) (c + 1 + n6) 20 0) 12 from rfl, emA_fr.2.1 12 (by omega) (by omega) (by omega), gi_ne (by omega), s3.2.1 12 (by omega) (by omega) (by omega), gi_ne (by omega), gi_ne (by omega), emA_fr.2.1 12 (by omega) (by omega) (by omega)]; exact f02.2.1 12 (by omega) (by omega) (by omega)
          · rw [z3.2.2.1 13 (by omega), gl_ne (by omega), emA_fr.2.2.1 13 (by omega), gl_si', s3.2.2.1 13 (by omega), gl_si', gl_si', emA_fr.2.2.1 13 (by omega)]; exact f02.2.2.1 13 (by omega)
          · rw [z3.2.1 14 (by omega) (by omega) (by omega), show gi (sl (emA (si A6 7 4 0) (c + 1 + n6) 20 0) 10 c (nl (c + 1 + n6 + 1))) 14 = gi (emA (si A6 7 4 0) (c + 1 + n6) 20 0) 14 from rfl, emA_fr.2.1 14 (by omega) (by omega) (by omega), gi_ne (by omega), s3.2.1 14 (by omega) (by omega) (by omega), gi_ne (by omega), gi_ne (by omega), emA_fr.2.1 14 (by omega) (by omega) (by omega)]; exact f02.2.1 14 (by omega) (by omega) (by omega)
        have cB : gl B11 184 = gl B 184 ∧ gi B11 185 = gi B 185 ∧ gl B11 186 = gl B 186 ∧ gi B11 187 = gi B 187 := by
          refine ⟨?_, ?_, ?_, ?_⟩
          · rw [hv.2.2.2.2, z4.2.2.1 184 (by omega) (by omega), gl_si', s4.2.2.1 184 (by omega) (by omega), gl_si']; exact g02.2.2.1 184 (by omega) (by omega)
          · rw [hv.2.2.2.1 185 (by omega), z4.2.1 185 (by omega) (by omega) (by omega), gi_ne (by omega), s4.2.1 185 (by omega) (by omega) (by omega), gi_ne (by omega)]; exact g02.2.1 185 (by omega) (by omega) (by omega)
          · rw [hv.2.2.2.2, z4.2.2.1 186 (by omega) (by omega), gl_si', s4.2.2.1 186 (by omega) (by omega), gl_si']; exact g02.2.2.1 186 (by omega) (by omega)
          · rw [hv.2.2.2.1 187 (by omega), z4.2.1 187 (by omega) (by omega) (by omega), gi_ne (by omega), s4.2.1 187 (by omega) (by omega) (by omega), gi_ne (by omega)]; exact g02.2.1 187 (by omega) (by omega) (by omega)
        rw [cA.1, cA.2.1, cA.2.2.1, cA.2.2.2, cB.1, cB.2.1, cB.2.2.1, cB.2.2.2, e83, hv.1 e26]
        refine ⟨⟨h1, fun j hj => ⟨(h2 j hj).1, (h2 j hj).2.kb kf.2.2.2.1 (by omega) (by omega)⟩⟩, ⟨h3, h4⟩, h5, h6, Or.inr ⟨c + 1, r, n6, rfl, rfl, ef, row20, ?_, by omega, by omega⟩⟩
        rw [(rowsB (r + n6) (by omega)).1]; exact o5
      · intro o a w v z ld sk sa sw ts te es nt h1 h2 h3 h4 h5 h6
        have q1 := h1 c (by omega) (by omega)
        have K := t2_tr own ld o a w v z sk sa sw ts te es nt
        exact K.2.1 3 c (c + 1 + n6 + 1) (c + 1 + n6 + 1) m m y y (q1.1.trans row14.1) (q1.2.trans row14.2) (by omega) (K.1 3 (c + 1 + n6 + 1) m y)
end Ru

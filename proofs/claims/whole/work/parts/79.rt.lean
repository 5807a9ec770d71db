theorem qk_q {A B A' B' : Mem} (qa : QA A A') (qb : QB B B') : QK A B A' B' := ⟨qa.2.2.1, qa.2.2.2.1, qa.1 3 (by omega), qb.2.1, qb.2.2.1, qb.1 26 (by omega)⟩
section Tz
variable {by_ : Nat → Nat} {n T own : Nat} {wd : Nat → Int64}
theorem lk_try {v e : Nat} {rC : Int32 → Mem → Option (Unit × Mem)} {rR : Mem → Option (Unit × Mem)} (hv : v < 3) (he2 : e < 70) (hr : StepR by_ n T own wd (v + 1) e rC rR) {A B : Mem} {i c r k t s m y : Nat} (h : R by_ n T own wd i c r A B) (hk : kap by_ n T wd i = 305) (h32 : gi B 181 32 = ni v) (cx : Cx0 A B) (ct : Ct k t (s + 1) m y A B)
    (hb : c ≤ pfN by_ n i ∧ r ≤ pfN by_ n i ∧ k ≤ pfN by_ n i ∧ t ≤ pfN by_ n i ∧ s ≤ pfN by_ n i ∧ 3 * m ≤ pfN by_ n i) (rl : Rl A B) (cn : Cn own c r k t (s + 1) y A B) (hy : gi A 7 6 = 0 → y ≤ s) :
    ∃ A' B', S_X4_readTry rC (ni (v + 1)) A = some ((), A') ∧ tryR rR B = some ((), B') ∧ FrC2 A A' ∧ FrB2 B B' ∧ (Br n T (e + 1) A' B' ∨ StP by_ n T own wd (3 - v) i c r k t s m y A B A' B') := by
  have p9 := h.p9
  have r0 := rB_si (a := 181) (j := 32) (x := ni (v + 1)) h (by omega)
  have kbX : Kb c r A B A (si B 181 32 (ni (v + 1))) := ⟨fun _ _ => ⟨rfl, rfl⟩, fun i _ => ⟨by rw [gi_ne (by omega)], rfl, by rw [gi_ne (by omega)]⟩, fun _ e => e, fun e => e⟩
  have qbX : QB B (si B 181 32 (ni (v + 1))) := ⟨fun j hj => si_ff' (by omega), rfl, gi_ne (by omega), rfl, gi_ne (by omega)⟩
  have fbX : FrB2 B (si B 181 32 (ni (v + 1))) := frB2_f (by omega)
  have ct0 : Ct k t (s + 1) m y A (si B 181 32 (ni (v + 1))) := ⟨⟨ct.1.1, (si_ff' (by omega)).trans ct.1.2⟩, ⟨ct.2.1.1, (si_ff' (by omega)).trans ct.2.1.2⟩, ⟨ct.2.2.1.1, (si_ff' (by omega)).trans ct.2.2.1.2⟩, (si_ff' (by omega)).trans ct.2.2.2.1, ct.2.2.2.2⟩
  have eX : gi (si B 181 32 (ni (v + 1))) 181 32 = ni (v + 1) := si_eq
  have eX14 : gi (si B 181 32 (ni (v + 1))) 181 14 = gi B 181 14 := si_ff' (by omega)
  have rX : ∀ a, a ≠ 181 → gi (si B 181 32 (ni (v + 1))) a = gi B a := fun a ha => gi_ne ha
  rw [tz_eq]
  unfold tryR
  rw [h32, show ni v + 1 = ni (v + 1) from ni_add v 1]
  generalize si B 181 32 (ni (v + 1)) = Bx at *
  obtain ⟨B2, a1, a2, a3, a4, a5, a6, a7, a8⟩ := adv' r0 (by omega)
  have w3 := word3 h (w := 5) (by rw [hk]) (by omega)
  have ct2 := ct0.fr a4 a5
  have e32 : gi B2 181 32 = ni (v + 1) := (a5.2.2.2.1 32 (by omega)).trans eX
  have p92 := a2.p9
  obtain ⟨B3, b1, b2, b3, b4, b5, b6, b7, b8, b9, b10, b11⟩ := mk_ok (x := 2) (y := 0) (z := 0) ct2.2.2.2.1 (by omega)
  have r3 := b9 _ _ _ _ _ _ _ _ _ a2
  rw [a1, bS]; dsimp only
  rw [ct2.2.2.2.1, b1, bS]; dsimp only
  obtain ⟨x0, A3, B4, l1, l2, l3, l4, l5⟩ := lk_take r3 (by omega) (b := 123) (x := 123) rfl (by omega) (by omega)
  rw [l1, bS]; dsimp only
  have eb1 : S_X11_block rR B3 = SJ_X11_block_6 rR FU B4 := by unfold S_X11_block; rw [l2, bS]
  rw [eb1]
  have f03 : FrC A A3 := a4.trans l3
  have g04 : FrB2 B B4 := ((fbX.trans a5.to2).trans b2).trans l4.to2
  have ct3 : Ct k t (s + 1) (m + 1) y A3 B4 := by
    have q : Ct k t (s + 1) (m + 1) y (si A 7 2 (gi A 7 2 + 1)) B3 := ⟨⟨ct2.1.1, (b3 15 (by omega)).trans ct2.1.2⟩, ⟨ct2.2.1.1, (b3 18 (by omega)).trans ct2.2.1.2⟩, ⟨ct2.2.2.1.1, (b3 22 (by omega)).trans ct2.2.2.1.2⟩, b4, ct2.2.2.2.2⟩
    exact q.fr l3 l4
  rcases l5 with l5 | ⟨l5, l6, l7, l8, l9⟩
  · have br := br_of l5 (by omega) ct3 (by omega) (by omega) (by omega)
    obtain ⟨A4, c1, c2⟩ := br.1.ytA (rS := rC) (v1 := ni (v + 1))
    rw [c1, show FU = 3999999 + 1 from rfl, wr_blk br.2.1.2.1, bS]; dsimp only
    unfold trB
    rw [wr_isWord br.2.1.2.1, bS]; dsimp only
    rw [if_neg (fun q => q rfl), wr_stops br.2.1.2.1, bS]
    exact ⟨A4, B4, rfl, rfl, f03.to2.trans c2.1, g04, Or.inl ((br.go c2 br.2.1.rf).mono (by omega))⟩
  have p93 := l8.p9
  obtain ⟨hx, y1, A4, d1, d2, d3, d4, d5, d6, d7, d8, d9, d10, d11⟩ := op_ok ct3.2.2.2.2.1 ct3.2.2.2.2.2 l8.2.2.2.2.2.2.2.1
  have r4 := d9 _ _ _ _ _ _ _ _ _ l8
  unfold tzA
  rw [d1, bS]; dsimp only
  have kb34 : ∀ {c' r'}, Kb c' r' (si A 7 2 (gi A 7 2 + 1)) B3 A3 B4 := by intro c' r'; rw [l6]; exact kb_adv l7
  have ko5 : KO c r m y A Bx A4 B4 := (((ko_fr a4 a5 a6).trans (b10 c r y _) (Nat.le_refl _) (Nat.le_refl _) (Nat.le_refl _) (Nat.le_refl _)).trans (ko_fr l3 l4 (kb34 (c' := c) (r' := r))) (Nat.le_refl _) (Nat.le_refl _) (Nat.le_refl _) (Nat.le_refl _)).trans (d10 c r m B4) (Nat.le_refl _) (Nat.le_refl _) (Nat.le_refl _) (Nat.le_refl _)
  have kb04 : Kb c r A B A4 B4 := kbX.trans ko5.2.2.2.1 (Nat.le_refl _) (Nat.le_refl _)
  have qa4 : QA A A4 := f03.qa.trans d11
  have qb4 : QB B B4 := ((qbX.trans a5.qb).trans b11).trans l4.qb
  have e21 : gi B4 181 21 = ni (m + 1) := (l4.2.2.2.1 21 (by omega)).trans b4
  have o4 : Ou by_ n T own wd (i + 1 + 1) c r k t (s + 1) (m + 1) y1 A4 B4 := by
    refine ou_mv cx ct rl cn r4 qa4 qb4 d3 d2.2 e21 kb04 (Nat.le_refl _) (Nat.le_refl _) (fun q => ?_) (by omega)
    have e0 : gi A 7 6 = 0 := Classical.byContradiction fun z => kb04.2.2.2 z q
    have u1 := (cn e0).2.2.1
    have u2 := hy e0
    rcases d4 with ⟨_, d4, _⟩ | ⟨d4, _⟩ <;> omega
  have e324 : gi B4 181 32 = ni (v + 1) := (l4.2.2.2.1 32 (by omega)).trans ((b3 32 (by omega)).trans e32)
  obtain ⟨A5a, x5, A5, B5, s1, s2, s3, s4, s5, s6⟩ := lk_steps hr (g := 1000) (τ := 0) (F := FU) (F' := FU) o4 e324 (by omega) (by have := l8.1.n9; omega) (by decide) (by decide)
  unfold tzB S_X4_readSteps
  have s1' : SJ_X4_readSteps_2 rC FU (ni (v + 1)) 0 A4 = some ((), A5a) := s1
  rw [s1', bS]; dsimp only
  rw [s2, bS]; dsimp only
  rw [s3, bS]; dsimp only
  rcases s6 with br | st
  · obtain ⟨A6, c1, c2⟩ := br.1.ytC (rS := rC) (v1 := ni (v + 1)) (x := hx)
    unfold trB
    rw [c1, wr_isWord br.2.1.2.1, bS]; dsimp only
    rw [if_neg (fun q => q rfl), wr_stops br.2.1.2.1, bS]
    exact ⟨A6, B5, rfl, rfl, (ko5.1.trans s4).trans c2.1, g04.trans s5, Or.inl ((br.go c2 br.2.1.rf).mono (by omega))⟩
  obtain ⟨i5, c5, r5, t5, s5', m5, y5, o5, q5, k5, ts5⟩ := st.ou
  have bd5 := o5.bd
  unfold tzC
  rw [emC_eq o5.1.2.2.2.2.2.2.2.1 (by omega), bS]; dsimp only
  have r6 := r_emA (o := 14) (a := 0) o5.1
  have e816 : gi (emA A5 c5 14 0) 8 16 = ni y5 := by rw [emA_f (by omega) (by omega)]; exact o5.2.2.1.2.2.2.2.1
  obtain ⟨A7, f1, f2, f3, f4, f5, f6, f7, f8, f9⟩ := cl_ok (y := y) (x := hx) e816 o5.2.2.1.2.2.2.2.2 r6.2.2.2.2.2.2.2.1 (by
    rcases d4 with ⟨u1, u2, u3, _⟩ | ⟨_, u⟩
    · exact Or.inr ⟨u3, by omega⟩
    · exact Or.inl u)
  rw [f1, bS]; dsimp only
  have r7 := f7 _ _ _ _ _ _ _ _ _ r6
  unfold tzD trB
  have f7A : FrC2 A A7 := ((ko5.1.trans s4).trans emA_fr.to2).trans f3
  by_cases k306 : ¬ kap by_ n T wd i5 = 306
  · obtain ⟨A8, B6, z1, z2, z3, z4, z5⟩ := stop r7 (by omega)
    have ct7 : Ct k t5 s5' m5 y5 A7 B5 := by
      have q := o5.2.2.1
      have e8 : gi A7 8 = gi (emA A5 c5 14 0) 8 := f4 8 (by omega) (by omega)
      have q2 := q.fr (emA_fr (A := A5) (c := c5) (o := 14) (a := 0)) FrB.rf
      unfold Ct at q2 ⊢
      rw [e8]; exact q2
    have br := br_of z5 (by omega) (ct7.fr z3 z4) (by omega) (by omega) (by omega)
    rw [take_n r7 (x := 306) (b := 306) rfl (by omega) k306, z1, bS, bS]; dsimp only
    rw [isWord_n o5.1 (x := 7) (w := 6) rfl (by omega) k306, bS]; dsimp only
    rw [if_neg (fun q => q rfl), z2, bS]
    obtain ⟨A9, c1, c2⟩ := br.1.ytE (rS := rC) (v1 := ni (v + 1)) (j := ni c5)
    rw [c1]
    exact ⟨A9, B6, rfl, rfl, (f7A.trans z3.to2).trans c2.1, (g04.trans s5).trans z4.to2, Or.inl ((br.go c2 br.2.1.rf).mono (by omega))⟩
  have k306 := Decidable.not_not.mp k306
  rw [take_y r7 (x := 306) (b := 306) rfl k306, bS]; dsimp only
  rw [isWord_y o5.1 (x := 7) (w := 6) rfl (by omega) k306, bS]; dsimp only
  rw [if_pos (by decide)]
  obtain ⟨B6, h1, h2, h3, h4, h5, h6, h7, h8⟩ := adv' r7 (by omega)
  have w6 := word3 o5.1 (w := 6) (by rw [k306]) (by omega)
  rw [h1, bS]; dsimp only
  have m6 : gi B6 181 21 = ni m5 := (h5.2.2.2.1 21 (by omega)).trans o5.2.2.1.2.2.2.1
  obtain ⟨B7, j1, j2, j3, j4, j5, j6, j7, j8, j9, j10, j11⟩ := mk_ok (x := 3) (y := 0) (z := 0) m6 (by omega)
  rw [m6, j1, bS]; dsimp only
  have r8 := j9 _ _ _ _ _ _ _ _ _ h2
  have p98 := r8.p9
  obtain ⟨x9, A9, B8, u1, u2, u3, u4, u5⟩ := lk_take r8 (by omega) (b := 123) (x := 123) rfl (by omega) (by omega)
  unfold tzE
  rw [u1, bS]; dsimp only
  have eb2 : S_X11_block rR B7 = SJ_X11_block_6 rR FU B8 := by unfold S_X11_block; rw [u2, bS]
  rw [eb2]
  have f89 : FrC A7 A9 := h4.trans u3
  have qa59 : QA A5 A9 := ((emA_fr (A := A5) (c := c5) (o := 14) (a := 0)).qa.trans f9).trans f89.qa
  have qb58 : QB B5 B8 := (h5.qb.trans j11).trans u4.qb
  have y59 : gi A9 8 16 = ni y5 := (f89.2.2.2.2 16 (by omega) (by omega)).trans (by rw [f4 8 (by omega) (by omega)]; exact e816)
  have m58 : gi B8 181 21 = ni (m5 + 1) := (u4.2.2.2.1 21 (by omega)).trans j4
  have g08 : FrB2 B B8 := (((g04.trans s5).trans h5.to2).trans j2).trans u4.to2
  rcases u5 with u5 | ⟨u5, u6, u7, u8, u9⟩
  · have ct9 : Ct k t5 s5' (m5 + 1) y5 A9 B8 := by
      have q := o5.2.2.1
      exact ⟨⟨(qa59.1 9 (by omega)).trans q.1.1, (qb58.1 15 (by omega)).trans q.1.2⟩, ⟨(qa59.1 12 (by omega)).trans q.2.1.1, (qb58.1 18 (by omega)).trans q.2.1.2⟩, ⟨(qa59.1 2 (by omega)).trans q.2.2.1.1, (qb58.1 22 (by omega)).trans q.2.2.1.2⟩, m58, y59, q.2.2.2.2.2⟩
    have br := br_of u5 (by omega) ct9 (by omega) (by omega) (by omega)
    obtain ⟨A10, c1, c2⟩ := br.1.ytF (rS := rC) (v1 := ni (v + 1)) (j := ni c5)
    obtain ⟨B10, x1, x2⟩ := br.2.1.rtC (by omega) (x := m) (z := m5) (by omega) (by omega)
    rw [c1, show FU = 3999999 + 1 from rfl, wr_blk br.2.1.2.1, bS]; dsimp only
    rw [x1]
    exact ⟨A10, B10, rfl, rfl, (f7A.trans f89.to2).trans c2.1, g08.trans x2.1, Or.inl ((br.go c2 x2).mono (by omega))⟩
  have p99 := u8.p9
  have kb89 : ∀ {c' r'}, Kb c' r' (si A7 7 2 (gi A7 7 2 + 1)) B7 A9 B8 := by intro c' r'; rw [u6]; exact kb_adv u7
  have ko59 : KO c5 r5 m5 y A5 B5 A9 B8 := ((((ko_fr emA_fr FrB.rf (kb_emA (c := c5) (r := r5) (o := 14) (a := 0))).trans (f8 c5 r5 m5 B5) (Nat.le_refl _) (Nat.le_refl _) (Nat.le_refl _) (Nat.le_refl _)).trans (ko_fr (m := m5) (y := y) h4 h5 h6) (by omega) (Nat.le_refl _) (Nat.le_refl _) (Nat.le_refl _)).trans (j10 c5 r5 y _) (Nat.le_refl _) (Nat.le_refl _) (Nat.le_refl _) (Nat.le_refl _)).trans (ko_fr u3 u4 (kb89 (c' := c5) (r' := r5))) (Nat.le_refl _) (Nat.le_refl _) (Nat.le_refl _) (Nat.le_refl _)
  have hb5 := o5.2.2.2.1
  have o9 : Ou by_ n T own wd (i5 + 1 + 1) (c5 + 1) r5 k t5 s5' (m5 + 1) y5 A9 B8 := by
    refine ou_mv o5.2.1 o5.2.2.1 o5.2.2.2.2.1 o5.2.2.2.2.2 u8 qa59 qb58 y59 o5.2.2.1.2.2.2.2.2 m58 ko59.2.2.2.1 (by omega) (Nat.le_refl _) (fun q => ?_) (by omega)
    have e0 : gi A5 7 6 = 0 := Classical.byContradiction fun z => ko59.2.2.2.1.2.2.2 z q
    exact ⟨(o5.2.2.2.2.2 e0).2.2.1, (o5.2.2.2.2.2 e0).2.2.2.1⟩
  have e328 : gi B8 181 32 = ni (v + 1) := (u4.2.2.2.1 32 (by omega)).trans ((j3 32 (by omega)).trans ((h5.2.2.2.1 32 (by omega)).trans (k5.2.2.1.2.2.trans e324)))
  obtain ⟨A10a, x10, A10, B10, t1', t2', t3', t4', t5', t6'⟩ := lk_steps hr (g := 1000) (τ := 0) (F := FU) (F' := FU) o9 e328 (by omega) (by have := l8.1.n9; omega) (by decide) (by decide)
  unfold tzF S_X4_readSteps
  have t1'' : SJ_X4_readSteps_2 rC FU (ni (v + 1)) 0 A9 = some ((), A10a) := t1'
  rw [t1'', bS]; dsimp only
  rw [t2', bS]; dsimp only
  rw [t3', bS]; dsimp only
  have fA10 : FrC2 A A10 := (f7A.trans f89.to2).trans t4'
  have gB10 : FrB2 B B10 := g08.trans t5'
  rcases t6' with br | st2
  · obtain ⟨A11, c1, c2⟩ := br.1.ytG (j := ni c5)
    obtain ⟨B11, x1, x2⟩ := br.2.1.rtC (by omega) (x := m) (z := m5) (by omega) (by omega)
    rw [c1, x1]
    exact ⟨A11, B11, rfl, rfl, fA10.trans c2.1, gB10.trans x2.1, Or.inl (br.go c2 x2)⟩
  obtain ⟨i10, c10, r10, t10, s10, m10, y10, o10, q10, k10, ts10⟩ := st2.ou
  have bd10 := o10.bd
  have hb10 := o10.2.2.2.1
  obtain ⟨B11, x1, x2, x3, x4, x5, x6, x7, x8, x9, x10, x11, x12⟩ := tc_ok (m := m) (q := m5) (v := v) o10.2.2.1.2.2.2.1 (k10.2.2.1.2.2.trans e328) (by omega) (by omega) (by omega)
  unfold tzG
  rw [land_eq o10.1.2.2.2.2.2.2.2.1 (by omega) (by omega), bS, x1]
  have r11 := x11 _ _ _ _ _ _ _ _ _ (rC_sl (a := 10) (j := c5) (x := nl c10) o10.1 (by omega))
  have qa11 : QA A10 (sl A10 10 c5 (nl c10)) := ⟨fun _ _ => rfl, rfl, gl_ne (by omega), rfl, gl_ne (by omega), rfl⟩
  have ko10 : KO c r m y A Bx A10 B10 := ((ko5.trans k5 (Nat.le_refl _) (Nat.le_refl _) (by omega) (by omega)).trans ko59 (by omega) (by omega) (by omega) (Nat.le_refl _)).trans k10 (by omega) (by omega) (by omega) (by omega)
  have kb10 : Kb c r A B A10 B10 := kbX.trans ko10.2.2.2.1 (Nat.le_refl _) (Nat.le_refl _)
  have kbf : Kb c5 r10 A10 B10 (sl A10 10 c5 (nl c10)) B11 := ⟨fun j hj => ⟨rfl, by rw [gl_sl, if_neg (fun e => by omega)]⟩, fun j _ => ⟨by rw [x6 191 (by omega) (by omega) (by omega) (by omega)], by rw [x7], by rw [x6 193 (by omega) (by omega) (by omega) (by omega)]⟩, fun _ e => e, fun e => e⟩
  have kf : KO c r m y A B (sl A10 10 c5 (nl c10)) B11 := by
    refine ⟨fA10.trans (frC2_sl (by omega)), gB10.trans x2, ⟨ko10.2.2.1.1, ?_, ?_⟩, kb10.trans kbf (by omega) (by omega), fun j hj => ?_, fun j hj => ko10.2.2.2.2.2 j hj⟩
    · rw [x4 14 (by omega) (by omega), ko10.2.2.1.2.1]; exact eX14
    · rw [x3, h32]
    · rw [(x9 j (by omega)).1, (x9 j (by omega)).2, x10 j (by omega) (by omega) (by omega)]
      have q := ko10.2.2.2.2.1 j hj
      refine ⟨q.1.trans ?_, q.2.1.trans ?_, q.2.2.trans ?_⟩
      · exact congrFun (rX 188 (by omega)) j
      · exact congrFun (rX 189 (by omega)) j
      · exact congrFun (rX 190 (by omega)) j
  have qkf : gi A10 7 6 = 0 → QK A B (sl A10 10 c5 (nl c10)) B11 := fun e => by
    have e9 : gi A9 7 6 = 0 := Classical.byContradiction fun z => k10.2.2.2.1.2.2.2 z e
    have e5 : gi A5 7 6 = 0 := Classical.byContradiction fun z => ko59.2.2.2.1.2.2.2 z e9
    exact ((((qk_q qa4 qb4).trans (ts5 e5).2.2).trans (qk_q qa59 qb58)).trans (ts10 e).2.2).trans (qk_q qa11 x12)
  refine ⟨_, B11, rfl, rfl, kf.1, kf.2.1, Or.inr (StP.mk (i' := i10) (c' := c10) (r' := r10) (t' := t10) (s' := s10) (m' := m10 + 1) (y' := y10) ?_ (by omega) kf ?_)⟩
  · have hb11 : c10 ≤ pfN by_ n i10 ∧ r10 ≤ pfN by_ n i10 ∧ k ≤ pfN by_ n i10 ∧ t10 ≤ pfN by_ n i10 ∧ s10 ≤ pfN by_ n i10 ∧ 3 * (m10 + 1) ≤ pfN by_ n i10 := by omega
    have q := o10.2.2.1
    refine ⟨r11, ⟨o10.2.1.1, (x12.1 33 (by omega)).trans o10.2.1.2.1, (x12.1 34 (by omega)).trans o10.2.1.2.2⟩, ⟨⟨q.1.1, (x12.1 15 (by omega)).trans q.1.2⟩, ⟨q.2.1.1, (x12.1 18 (by omega)).trans q.2.1.2⟩, ⟨q.2.2.1.1, (x12.1 22 (by omega)).trans q.2.2.1.2⟩, x5, q.2.2.2.2⟩, hb11, ?_, ?_⟩
    · unfold Rl; rw [x12.1 26 (by omega)]; exact o10.2.2.2.2.1
    · intro e
      have e10 : gi A10 7 6 = 0 := e
      have e0 : gi A 7 6 = 0 := Classical.byContradiction fun z => kb10.2.2.2 z e10
      have qk := qkf e10
      obtain ⟨-, ⟨g1, g2⟩, g3, g4, -⟩ := o10.2.2.2.2.2 e10
      obtain ⟨⟨g5, g6⟩, -, -, -, g7⟩ := cn e0
      have e13 : gl (sl A10 10 c5 (nl c10)) 13 = gl A10 13 := gl_ne (by omega)
      have e14 : gi (sl A10 10 c5 (nl c10)) 14 = gi A10 14 := rfl
      rw [e13, e14, qk.1, qk.2.1, qk.2.2.1, qk.2.2.2.1, qk.2.2.2.2.1, qk.2.2.2.2.2, x7, x6 187 (by omega) (by omega) (by omega) (by omega)]
      refine ⟨⟨g5, fun j hj => ⟨(g6 j hj).1, (g6 j hj).2.kb kf.2.2.2.1 (by omega) (by omega)⟩⟩, ⟨g1, g2⟩, g3, g4, ?_⟩
      rcases g7 with g7 | g7
      · exact Or.inl g7
      · exact Or.inr (g7.kb kf.2.2.2.1 (by omega) (by omega))
  · intro e
    have e10 : gi A10 7 6 = 0 := e
    have e9 : gi A9 7 6 = 0 := Classical.byContradiction fun z => k10.2.2.2.1.2.2.2 z e10
    have e5 : gi A5 7 6 = 0 := Classical.byContradiction fun z => ko59.2.2.2.1.2.2.2 z e9
    have e0 : gi A 7 6 = 0 := Classical.byContradiction fun z => kb10.2.2.2 z e10
    have z1 := hy e0
    have z2 := (cn e0).2.2.1
    have z3 := (ts5 e5).2.1
    have z4 := (ts10 e10).2.1
    refine ⟨?_, by omega, qkf e10⟩
    obtain ⟨d41, d42, d43, d44⟩ : y < 40 ∧ y1 = y + 1 ∧ hx = ni y ∧ gi A4 15 y = ni c := by
      rcases d4 with d4 | d4
      · exact d4
      · omega
    have f2' := f2 ⟨d43, by omega⟩
    have r15 : gi A9 15 = gi A5 15 := (f89.2.1 15 (by omega) (by omega) (by omega)).trans ((f4 15 (by omega) (by omega)).trans (emA_fr.2.1 15 (by omega) (by omega) (by omega)))
    have q1 : ∀ j, c ≤ j → j < c5 → gi (sl A10 10 c5 (nl c10)) 9 j = gi A5 9 j ∧ gl (sl A10 10 c5 (nl c10)) 10 j = gl A5 10 j := fun j j1 j2 => by
      have w1 := k10.2.2.2.1.1 j (by omega)
      have w2 := ko59.2.2.2.1.1 j (by omega)
      exact ⟨w1.1.trans w2.1, by rw [gl_sl, if_neg (by omega)]; exact w1.2.trans w2.2⟩
    have q2 : ∀ j, j < r5 → gi B11 191 j = gi B5 191 j ∧ gl B11 192 j = gl B5 192 j ∧ gi B11 193 j = gi B5 193 j := fun j j1 => by
      have w0 := kbf.2.1 j (by omega)
      have w1 := k10.2.2.2.1.2.1 j (by omega)
      have w2 := ko59.2.2.2.1.2.1 j (by omega)
      exact ⟨w0.1.trans (w1.1.trans w2.1), w0.2.1.trans (w1.2.1.trans w2.2.1), w0.2.2.trans (w1.2.2.trans w2.2.2)⟩
    have q4 : ∀ j, m + 1 ≤ j → j < m5 → gi B11 188 j = gi B5 188 j ∧ gi B11 189 j = gi B5 189 j ∧ gi B11 190 j = gi B5 190 j := fun j j1 j2 => by
      have w0 := x9 j (by omega)
      have w1 := k10.2.2.2.2.1 j (by omega)
      have w2 := ko59.2.2.2.2.1 j (by omega)
      exact ⟨w0.1.trans (w1.1.trans w2.1), w0.2.trans (w1.2.1.trans w2.2.1), (x10 j (by omega) (by omega) (by omega)).trans (w1.2.2.trans w2.2.2)⟩
    have q5 : ∀ j, y1 ≤ j → j < y5 → gi (sl A10 10 c5 (nl c10)) 15 j = gi A5 15 j ∧ gi (sl A10 10 c5 (nl c10)) 16 j = gi A5 16 j ∧ gi (sl A10 10 c5 (nl c10)) 17 j = gi A5 17 j := fun j j1 j2 => by
      have w1 := k10.2.2.2.2.2 j (by omega)
      have w2 := f6 j (by omega)
      refine ⟨w1.1.trans (by rw [r15]), w1.2.1.trans ?_, w1.2.2.trans ?_⟩
      · rw [f89.2.1 16 (by omega) (by omega) (by omega), w2.1, emA_fr.2.1 16 (by omega) (by omega) (by omega)]
      · rw [f89.2.1 17 (by omega) (by omega) (by omega), w2.2, emA_fr.2.1 17 (by omega) (by omega) (by omega)]
    have tsA := (ts5 e5).1.rg (A' := sl A10 10 c5 (nl c10)) (B' := B11) (r' := r10) (nt' := t10) q1 q2 (fun Y u => kbf.2.2.1 Y (k10.2.2.2.1.2.2.1 Y (ko59.2.2.2.1.2.2.1 Y u))) q4 q5 (by omega) (by omega)
    have tsB := (ts10 e10).1.rg (A' := sl A10 10 c5 (nl c10)) (B' := B11) (r' := r10) (nt' := t10) (fun j j1 j2 => ⟨rfl, by rw [gl_sl, if_neg (by omega)]⟩) (fun j j1 => kbf.2.1 j j1) kbf.2.2.1 (fun j j1 j2 => ⟨(x9 j (by omega)).1, (x9 j (by omega)).2, x10 j (by omega) (by omega) (by omega)⟩) (fun j j1 j2 => ⟨rfl, rfl, rfl⟩) (Nat.le_refl _) (Nat.le_refl _)
    have v15 : gi (sl A10 10 c5 (nl c10)) 15 y = ni c := (k10.2.2.2.2.2 y (by omega)).1.trans ((congrFun r15 y).trans ((k5.2.2.2.2.2 y (by omega)).1.trans d44))
    have v16 : gi (sl A10 10 c5 (nl c10)) 16 y = ni (c5 + 1) := (k10.2.2.2.2.2 y (by omega)).2.1.trans ((congrFun (f89.2.1 16 (by omega) (by omega) (by omega)) y).trans f2'.1)
    have v17 : gi (sl A10 10 c5 (nl c10)) 17 y = ni (c5 + 1) := (k10.2.2.2.2.2 y (by omega)).2.2.trans ((congrFun (f89.2.1 17 (by omega) (by omega) (by omega)) y).trans f2'.2)
    have v9 : gi (sl A10 10 c5 (nl c10)) 9 c5 = 14 := by
      refine (k10.2.2.2.1.1 c5 (by omega)).1.trans (((kb89 (c' := c5 + 1) (r' := 0)).1 c5 (by omega)).1.trans ((h6.1 c5 (by omega)).1.trans ?_))
      rw [f4 9 (by omega) (by omega), emA_9, if_pos rfl]
    have v10 : gl (sl A10 10 c5 (nl c10)) 10 c5 = nl c10 := sl_eq
    have v188m : gi B11 188 m = 2 := (x9 m (by omega)).1.trans ((k10.2.2.2.2.1 m (by omega)).1.trans ((ko59.2.2.2.2.1 m (by omega)).1.trans ((k5.2.2.2.2.1 m (by omega)).1.trans ((congrFun (l4.2.1 188 (by omega) (by omega) (by omega)) m).trans b7.1))))
    have v188q : gi B11 188 m5 = 3 := (x9 m5 (by omega)).1.trans ((k10.2.2.2.2.1 m5 (by omega)).1.trans ((congrFun (u4.2.1 188 (by omega) (by omega) (by omega)) m5).trans j7.1))
    intro o a w v' z ld sk sa sw ts te es nt p1 p2 p3 p4 p5 p6
    have K := t2_tr own ld o a w v' z sk sa sw ts te es nt
    have P1 := tsA o a w v' z ld sk sa sw ts te es nt (fun j j1 j2 => p1 j j1 (by omega)) p2 p3 (fun j j1 j2 => p4 j (by omega) (by omega)) (fun j j1 j2 => p5 j (by omega) (by omega)) p6
    have P2 := tsB o a w v' z ld sk sa sw ts te es nt (fun j j1 j2 => p1 j (by omega) j2) p2 p3 (fun j j1 j2 => p4 j (by omega) (by omega)) (fun j j1 j2 => p5 j (by omega) j2) p6
    rw [d42] at P1
    rw [show 3 - v = 3 - (v + 1) + 1 by omega]
    have t0 := p5 y (by omega) (by omega)
    have t1 := p1 c5 (by omega) (by omega)
    have t2 := p4 m (by omega) (by omega)
    have t3 := p4 m5 (by omega) (by omega)
    have t4 := p4 m10 (by omega) (by omega)
    exact K.2.2.2.2 (3 - (v + 1)) c c5 c10 c10 m m5 m10 (m10 + 1) y y5 y10 y10 (t0.1.trans v15) P1 (t1.1.trans v9) (t1.2.trans v10) (t0.2.1.trans v16) (t0.2.2.trans v17) P2 (t2.1.trans v188m) (t2.2.2.trans x8.1) (t3.1.trans v188q) (t3.2.2.trans x8.2.1) (t4.1.trans x8.2.2) (K.1 _ c10 (m10 + 1) y10)
theorem st_cnt {A B : Mem} {i c r k t s m y : Nat} {rC : Int32 → Mem → Option (Unit × Mem)} {rR : Mem → Option (Unit × Mem)} {v v2 : Int32} (h : Ou by_ n T own wd i c r k t s m y A B) (hk : StW by_ n T wd i) : ∃ A2 B2, SJ_X4_readStep_36 rC v v2 A = SJ_X4_readStep_70 rC v v2 A2 ∧ (∃ B1, SJ_X11_step_22 rR B = SJ_X11_step_40 rR B1 ∧ B2 = si B1 181 22 (gi B1 181 22 + 1)) ∧ R by_ n T own wd i c r A2 B2 ∧ Cx0 A2 B2 ∧ Ct k t (s + 1) m y A2 B2 ∧ Rl A2 B2 ∧ Cn own c r k t (s + 1) y A2 B2 ∧ KO c r m y A B A2 B2 ∧ QK A B A2 B2 ∧ gi B2 181 32 = gi B 181 32 ∧ (gi A2 7 6 = 0 → y ≤ s) := by
  have bd := h.bd
  obtain ⟨hR, cx, ct, hb, rl, cn⟩ := h
  have rA := rC_si (a := 8) (j := 2) (x := ni (s + 1)) hR (by omega)
  have e2 : gi (si A 8 2 (ni (s + 1))) 8 2 = ni (s + 1) := si_eq
  -- told or not
  obtain ⟨A2, B1, f1, f2, f3, f4, f5, f6, f7⟩ : ∃ A2 B1, SJ_X4_readStep_36 rC v v2 A = SJ_X4_readStep_70 rC v v2 A2 ∧ SJ_X11_step_22 rR B = SJ_X11_step_40 rR B1 ∧ FrC (si A 8 2 (ni (s + 1))) A2 ∧ FrB B B1 ∧ R by_ n T own wd i c r A2 B1 ∧ Kb c r (si A 8 2 (ni (s + 1))) B A2 B1 ∧ (s + 1 ≤ 40 ∨ ¬ gi A2 7 6 = 0) := by
    unfold SJ_X4_readStep_36 SJ_X11_step_22
    rw [ct.2.2.1.1, show ni s + 1 = ni (s + 1) from ni_add s 1, e2, ct.2.2.1.2]
    by_cases s40 : s < 40
    · rw [if_pos (show ni (s + 1) ≤ 40 from (ni_le (b := 40) (by omega) (by omega)).mpr (by omega)), if_pos (show ni s < 40 from (ni_lt (b := 40) (by omega) (by omega)).mpr s40)]
      exact ⟨_, _, rfl, rfl, FrC.rf, FrB.rf, rA, Kb.rf, Or.inl (by omega)⟩
    · obtain ⟨A1, B1, q1, q2, q3, q4, q5, q6, q7⟩ := tellw (kk := 5) rA (by unfold StW at hk; omega) (by rcases hk with hk | hk | hk <;> rw [hk] <;> rfl) (by omega) (by omega)
      rw [if_neg (show ¬ ni (s + 1) ≤ 40 from fun e => by have := (ni_le (b := 40) (by omega) (by omega)).mp e; omega), if_neg (show ¬ ni s < 40 from fun e => s40 ((ni_lt (b := 40) (by omega) (by omega)).mp e))]
      have q1' : ((S_X4_place (si A 8 2 (ni (s + 1)))).bind fun w9 => (S_X4_note (5 : Int32) w9.1 w9.2).bind fun w10 => SJ_X4_readStep_70 rC v v2 w10.2) = SJ_X4_readStep_70 rC v v2 A1 := by
        rw [place_eq rA, bS] at q1 ⊢
        have q1 : S_X4_note 5 (ni (pfN by_ n i)) (si A 8 2 (ni (s + 1))) = some ((), A1) := q1
        dsimp only
        rw [q1, bS]
      have q2 : S_X11_tells 5 (gi B 181 7) B = some ((), B1) := q2
      rw [q1', q2, bS]
      exact ⟨A1, B1, rfl, rfl, q3, q4, q5, q6, Or.inr q7⟩
  have kA : KO c r m y A B (si A 8 2 (ni (s + 1))) B := koC_si (by omega)
  have kB : KO c r m y A2 B1 A2 (si B1 181 22 (gi B1 181 22 + 1)) := koB_si (by omega)
  have ko := (kA.trans (ko_fr f3 f4 f6) (Nat.le_refl _) (Nat.le_refl _) (Nat.le_refl m) (Nat.le_refl y)).trans kB (Nat.le_refl _) (Nat.le_refl _) (Nat.le_refl _) (Nat.le_refl _)
  have e22 : gi B1 181 22 = ni s := (f4.2.2.2.1 22 (by omega)).trans ct.2.2.1.2
  have ct1 : Ct k t (s + 1) m y A2 (si B1 181 22 (gi B1 181 22 + 1)) := by
    refine ⟨⟨?_, ?_⟩, ⟨?_, ?_⟩, ⟨?_, ?_⟩, ?_, ?_, ct.2.2.2.2.2⟩
    · rw [f3.2.2.2.2 9 (by omega) (by omega), si_ff' (by omega)]; exact ct.1.1
    · rw [si_ff' (by omega), f4.2.2.2.1 15 (by omega)]; exact ct.1.2
    · rw [f3.2.2.2.2 12 (by omega) (by omega), si_ff' (by omega)]; exact ct.2.1.1
    · rw [si_ff' (by omega), f4.2.2.2.1 18 (by omega)]; exact ct.2.1.2
    · rw [f3.2.2.2.2 2 (by omega) (by omega)]; exact e2
    · rw [si_eq, e22]; exact ni_add s 1
    · rw [si_ff' (by omega), f4.2.2.2.1 21 (by omega)]; exact ct.2.2.2.1
    · rw [f3.2.2.2.2 16 (by omega) (by omega), si_ff' (by omega)]; exact ct.2.2.2.2.1
  have qa : QA (si A 8 2 (ni (s + 1))) A2 := f3.qa
  have qk : QK A B A2 (si B1 181 22 (gi B1 181 22 + 1)) := by
    refine ⟨?_, ?_, ?_, ?_, ?_, ?_⟩
    · rw [qa.2.2.1]; rfl
    · rw [qa.2.2.2.1, gi_ne (by omega)]
    · rw [qa.1 3 (by omega), si_ff' (by omega)]
    · exact f4.qb.2.1
    · rw [gi_ne (by omega)]; exact f4.qb.2.2.1
    · rw [si_ff' (by omega)]; exact f4.qb.1 26 (by omega)
  have back : gi A2 7 6 = 0 → gi A 7 6 = 0 := fun e => Classical.byContradiction fun z => ko.2.2.2.1.2.2.2 z e
  refine ⟨A2, _, f1, ⟨B1, f2, rfl⟩, rB_si f5 (by omega), ⟨?_, ?_, ?_⟩, ct1, ?_, ?_, ko, qk, ?_, fun e => (cn (back e)).2.2.2.1⟩
  · rw [qa.2.1, gi_ne (by omega)]; exact cx.1
  · rw [si_ff' (by omega), f4.2.2.2.1 33 (by omega)]; exact cx.2.1
  · rw [si_ff' (by omega), f4.2.2.2.1 34 (by omega)]; exact cx.2.2
  · unfold Rl; rw [qk.2.2.1, qk.2.2.2.2.2]; exact rl
  · refine cn.cg ko.2.2.2.1 (Nat.le_refl _) (Nat.le_refl _) (fun e => ?_) qk.1 qk.2.1 ?_ ?_ qk.2.2.1 qk.2.2.2.1 qk.2.2.2.2.1 ?_ ?_ qk.2.2.2.2.2
    · have := (cn (back e)).2.2.2.1
      rcases f7 with f7 | f7
      · omega
      · exact absurd e f7
    · rw [qa.2.2.2.2.1]; rfl
    · rw [qa.2.2.2.2.2, gi_ne (by omega)]
    · exact f4.qb.2.2.2.1
    · rw [gi_ne (by omega)]; exact f4.qb.2.2.2.2
  · rw [si_ff' (by omega), f4.2.2.2.1 32 (by omega)]
theorem lk_step : ∀ {f v : Nat}, v ≤ 3 → 4 ≤ v + f → StepR by_ n T own wd v (13 - v) (S_X4_readStep f) (S_X11_step f) := by
  intro f
  induction f with
  | zero => intro v h1 h2; omega
  | succ f ih =>
    intro v hv hf
    refine ⟨?_, ?_⟩
    · intro i c r k t s m y A B h h32 hw
      have bd := h.bd
      show ∃ A' B', SB_X4_readStep (S_X4_readStep f) (ni v) A = some ((), A') ∧ SB_X11_step (S_X11_step f) B = some ((), B') ∧ _
      by_cases h3 : kap by_ n T wd i = 305 ∧ v = 3
      · obtain ⟨k5, rfl⟩ := h3
        obtain ⟨A1, B1, s1, s2, s3, s4, s5⟩ := stop h.1 (by omega)
        have br := (h.br s3 s4 s5 (by omega))
        unfold SB_X4_readStep SB_X11_step
        rw [kind_eq h.1, bS, k5]; dsimp only
        rw [if_neg (by decide), if_neg (by decide), if_neg (by decide), if_neg (by decide)]
        unfold SJ_X4_readStep_31
        rw [s1, bS, isWord_y h.1 (x := 6) (w := 5) rfl (by omega) k5, bS]; dsimp only
        rw [if_neg (by decide), h32, if_neg (fun q => q rfl), s2, bS]
        exact ⟨A1, B1, rfl, rfl, s3.to2, s4.to2, Or.inl (br.mono (by omega))⟩
      · obtain ⟨A2, B2, f1, ⟨B1, f2, f2'⟩, f3, f4, f5, f6, f7, f8, f9, f10, f11⟩ := st_cnt (rC := S_X4_readStep f) (rR := S_X11_step f) (v := ni v) (v2 := ni (kap by_ n T wd i)) h hw
        have eC : SB_X4_readStep (S_X4_readStep f) (ni v) A = SJ_X4_readStep_70 (S_X4_readStep f) (ni v) (ni (kap by_ n T wd i)) A2 := by
          rw [← f1]
          unfold SB_X4_readStep
          rw [kind_eq h.1, bS]; dsimp only
          rcases hw with hw | hw | hw
          · rw [hw, if_pos (by decide)]
          · rw [hw, if_neg (by decide), if_pos (by decide)]
          · rw [hw, if_neg (by decide), if_neg (by decide), if_neg (by decide), if_pos (show ni v < 3 from (ni_lt (b := 3) (by omega) (by omega)).mpr (by omega))]
        have eR : SB_X11_step (S_X11_step f) B = SJ_X11_step_40 (S_X11_step f) B1 := by
          rw [← f2]
          unfold SB_X11_step
          by_cases k5 : kap by_ n T wd i = 305
          · rw [isWord_y h.1 (x := 6) (w := 5) rfl (by omega) k5, bS]; dsimp only
            rw [if_neg (by decide), h32, if_pos (show ¬ ni v = 3 from fun e => h3 ⟨k5, (ni_inj (b := 3) (by omega) (by omega)).mp e⟩)]
          · rw [isWord_n h.1 (x := 6) (w := 5) rfl (by omega) k5, bS]; dsimp only
            rw [if_pos rfl]
        rw [eC, eR, step40_eq, ← f2']
        unfold SJ_X4_readStep_70
        have hb := h.2.2.2.1
        rcases hw with hw | hw | hw
        · rw [hw, if_neg (show ¬ ¬ ni 303 = 303 by decide), isWord_y f3 (x := 4) (w := 3) rfl (by omega) hw, bS]; dsimp only
          rw [if_neg (by decide)]
          obtain ⟨A3, B3, g1, g2, g3, g4, g5⟩ := lk_table (d := 3 - v) f3 hw f4 f5 hb f6 f7
          rw [g1, g2, bS, bS]
          refine ⟨A3, B3, rfl, rfl, f8.1.trans g3, f8.2.1.trans g4, ?_⟩
          rcases g5 with g5 | g5
          · exact Or.inl (g5.mono (by omega))
          · exact Or.inr (StP.pre f8 f9 g5)
        · rw [hw, if_pos (show ¬ ni 304 = 303 by decide), if_neg (show ¬ ¬ ni 304 = 304 by decide), isWord_n f3 (x := 4) (w := 3) rfl (by omega) (by omega), bS]; dsimp only
          rw [if_pos rfl, isWord_y f3 (x := 5) (w := 4) rfl (by omega) hw, bS]; dsimp only
          rw [if_neg (by decide)]
          obtain ⟨A3, B3, g1, g2, g3, g4, g5⟩ := lk_check (d := 3 - v) f3 hw f4 f5 hb f6 f7
          rw [g1, g2, bS, bS]
          refine ⟨A3, B3, rfl, rfl, f8.1.trans g3, f8.2.1.trans g4, ?_⟩
          rcases g5 with g5 | g5
          · exact Or.inl (g5.mono (by omega))
          · exact Or.inr (StP.pre f8 f9 g5)
        · have v3 : v < 3 := by omega
          rw [hw, if_pos (show ¬ ni 305 = 303 by decide), if_pos (show ¬ ni 305 = 304 by decide), isWord_n f3 (x := 4) (w := 3) rfl (by omega) (by omega), bS]; dsimp only
          rw [if_pos rfl, isWord_n f3 (x := 5) (w := 4) rfl (by omega) (by omega), bS]; dsimp only
          rw [if_pos rfl, show ni v + 1 = ni (v + 1) from ni_add v 1]
          obtain ⟨A3, B3, g1, g2, g3, g4, g5⟩ := lk_try v3 (by omega) (ih (v := v + 1) (by omega) (by omega)) f3 hw (f10.trans h32) f4 f5 hb f6 f7 f11
          rw [g1, g2, bS]
          refine ⟨A3, B3, rfl, rfl, f8.1.trans g3, f8.2.1.trans g4, ?_⟩
          rcases g5 with g5 | g5
          · exact Or.inl (g5.mono (by omega))
          · exact Or.inr (StP.pre f8 f9 g5)
    · intro i c r A B h hw
      have kl := kap_lt h
      unfold StW at hw
      show SB_X4_readStep (S_X4_readStep f) (ni v) A = _
      unfold SB_X4_readStep
      rw [kind_eq h, bS]; dsimp only
      rw [if_neg (show ¬ ni (kap by_ n T wd i) = 303 from fun q => hw (Or.inl ((ni_inj (b := 303) (by omega) (by omega)).mp q))), if_neg (show ¬ ni (kap by_ n T wd i) = 304 from fun q => hw (Or.inr (Or.inl ((ni_inj (b := 304) (by omega) (by omega)).mp q)))), if_pos (show ¬ ni (kap by_ n T wd i) = 305 from fun q => hw (Or.inr (Or.inr ((ni_inj (b := 305) (by omega) (by omega)).mp q))))]
      rfl
end Tz

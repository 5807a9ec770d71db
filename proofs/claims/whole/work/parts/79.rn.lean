-- needs: 74.sclsb 75.num 76.rel 77.cong 78.sim 79.qa 79.qb 79.ra 79.rb 79.rc 79.rd 79.re 79.rf 79.rg 79.rh 79.ri 79.rj 79.rk 79.rl 79.rm
-- ===== a table, a check =====
def tbC4 (v1 v0 : Int32) (M : Mem) : Option (Unit × Mem) :=
  (S_X0_emit (18 : Int32) ((v0.toInt64 * (8 : Int64)) + v1.toInt64) (si M 7 4 (0 : Int32))).bind fun w7 =>
  (S_X4_take (59 : Int32) w7.2).bind fun w8 =>
  some ((), w8.2)
def tbC3 (v1 : Int32) (nm num : Int64) (M : Mem) : Option (Unit × Mem) :=
  (S_X0_addTable nm num M).bind fun w4 =>
  (S_X0_emit (17 : Int32) (0 : Int64) w4.2).bind fun w5 =>
  (S_X4_readChoice 14 (1 : Int32) (si w5.2 7 4 (1 : Int32))).bind fun w6 => tbC4 v1 (gi w5.2 8 6) w6.2
def tbC2 (v1 : Int32) (nm num : Int64) (M : Mem) : Option (Unit × Mem) := (S_X4_take (61 : Int32) M).bind fun w3 => tbC3 v1 nm num w3.2
def tbC1 (v1 : Int32) (nm : Int64) (M : Mem) : Option (Unit × Mem) := (S_X4_takeNumber (1 : Int32) (12 : Int32) M).bind fun w2 => tbC2 v1 nm w2.1 w2.2
theorem tbC_eq {v1 : Int32} {M : Mem} : SJ_X4_readTable_23 v1 M = (S_X4_takeNewName (si M 7 2 ((gi M 7 2) + (1 : Int32)))).bind fun w1 => tbC1 v1 w1.1 w1.2 := rfl
section BcT
variable {n T : Nat} {A : Mem}
theorem BC.tb4 (h : BC n T A) {v1 v0 : Int32} : ∃ A', tbC4 v1 v0 A = some ((), A') ∧ BS n T A A' := by
  have a1 := h.wi (a := 7) (j := 4) (x := 0) (by omega) (by omega) (by omega)
  obtain ⟨x, A2, e1, e2⟩ := a1.2.2.emit (o := 18) (a := (v0.toInt64 * (8 : Int64)) + v1.toInt64)
  unfold tbC4
  rw [e1, bS]; dsimp only
  rw [bk_take e2.2.2.2.2.1 (by decide), bS]
  exact ⟨_, rfl, a1.tr e2⟩
theorem BC.tb3 (h : BC n T A) {v1 : Int32} {nm num : Int64} : ∃ A', tbC3 v1 nm num A = some ((), A') ∧ BS n T A A' := by
  obtain ⟨A1, t1, t2⟩ := h.addTable (x := nm) (y := num)
  obtain ⟨x, A2, e1, e2⟩ := t2.2.2.emit (o := 17) (a := 0)
  have a3 := e2.2.2.wi (a := 7) (j := 4) (x := 1) (by omega) (by omega) (by omega)
  obtain ⟨A4, f1, f2⟩ := a3.2.2.tb4 (v1 := v1) (v0 := gi A2 8 6)
  unfold tbC3
  rw [t1, bS]; dsimp only
  rw [e1, bS]; dsimp only
  rw [a3.2.2.choice (F := 13), bS]; dsimp only
  rw [f1]
  exact ⟨_, rfl, ((t2.tr e2).tr a3).tr f2⟩
theorem BC.tb2 (h : BC n T A) {v1 : Int32} {nm num : Int64} : ∃ A', tbC2 v1 nm num A = some ((), A') ∧ BS n T A A' := by
  unfold tbC2
  rw [bk_take h.2.2.1 (by decide), bS]
  exact h.tb3
theorem BC.tb1 (h : BC n T A) {v1 : Int32} {nm : Int64} : ∃ A', tbC1 v1 nm A = some ((), A') ∧ BS n T A A' := by
  unfold tbC1
  obtain ⟨x, hx⟩ := h.number (u := 1) (v := 12)
  rw [hx, bS]
  exact h.tb2
end BcT
/-- the reference's end of a table -/
def tbR4 (v2 : Int64) (v4 v5 : Int32) (M : Mem) : Option (Unit × Mem) :=
  if (6 : Int32) ≤ (gi M 181 18) then
  (SJ_X11_table_154 v5 M)
  else
  (gd (inb (gi M 181 18) 6) (
  gd (inb (gi (sl M 186 (gi M 181 18).toNatClampNeg v2) 181 18) 6) (
  SJ_X11_table_154 v5 (si (sl M 186 (gi M 181 18).toNatClampNeg v2) 187 (gi (sl M 186 (gi M 181 18).toNatClampNeg v2) 181 18).toNatClampNeg v4))))
def tbR3 (v2 : Int64) (v4 v5 : Int32) (M : Mem) : Option (Unit × Mem) :=
  (S_X11_must (59 : Int32) (si M 181 33 (0 : Int32))).bind fun w4 => tbR4 v2 v4 v5 w4.2
theorem tbR_eq {v2 : Int64} {v4 : Int32} {M : Mem} : SJ_X11_table_92 v2 v4 M = (S_X11_must (61 : Int32) M).bind fun w2 => (S_X11_whole (si w2.2 181 33 (1 : Int32))).bind fun w3 => tbR3 v2 v4 (gi w2.2 181 27) w3.2 := rfl
theorem tbR4_eq {B : Mem} {t m : Nat} {v2 : Int64} {v4 v5 : Int32} (ht : gi B 181 18 = ni t) (ht2 : t < 1000) (hm : gi B 181 21 = ni m) (hm2 : m < 400) :
    tbR4 v2 v4 v5 B = some ((), si (si (si (si (si (if t < 6 then si (sl B 186 t v2) 187 t v4 else B) 188 m 0) 189 m v5) 190 m (ni t)) 181 21 (ni (m + 1))) 181 18 (ni (t + 1))) := by
  unfold tbR4 SJ_X11_table_154
  by_cases h6 : t < 6
  · have e1 : gi (sl B 186 t v2) 181 18 = ni t := ht
    have e2 : gi (si (sl B 186 t v2) 187 t v4) 181 18 = ni t := by rw [gi_ne (by omega)]; exact e1
    have e3 : gi (si (sl B 186 t v2) 187 t v4) 181 21 = ni m := by rw [gi_ne (by omega)]; exact hm
    rw [ht, if_neg (show ¬ (6 : Int32) ≤ ni t from fun e => by have := (ni_le (a := 6) (by omega) (by omega)).mp e; omega), gdT ((ni_inb (by omega)).mpr h6), ni_tn (by omega), e1, gdT ((ni_inb (by omega)).mpr h6), ni_tn (by omega), e2, mark_eq e3 hm2, bS, if_pos h6]; dsimp only
    rw [show gi (si (si (si (si (si (sl B 186 t v2) 187 t v4) 188 m 0) 189 m v5) 190 m (ni t)) 181 21 (ni (m + 1))) 181 18 = ni t by rw [si_ff' (by omega), gi_ne (by omega), gi_ne (by omega), gi_ne (by omega)]; exact e2, show ni t + 1 = ni (t + 1) from ni_add t 1]
  · rw [ht, if_pos (show (6 : Int32) ≤ ni t from (ni_le (a := 6) (by omega) (by omega)).mpr (by omega)), mark_eq hm hm2, bS, if_neg h6]; dsimp only
    rw [show gi (si (si (si (si B 188 m 0) 189 m v5) 190 m (ni t)) 181 21 (ni (m + 1))) 181 18 = ni t by rw [si_ff' (by omega), gi_ne (by omega), gi_ne (by omega), gi_ne (by omega)]; exact ht, show ni t + 1 = ni (t + 1) from ni_add t 1]
theorem WB.tb4 {e : Nat} {B : Mem} (h : WB e B) (he : e < 40) {v2 : Int64} {v4 v5 : Int32} : ∃ B', tbR4 v2 v4 v5 B = some ((), B') ∧ WS (e + 2) B B' := by
  obtain ⟨t, t1, t2⟩ := h.2.2.2.2.1
  obtain ⟨m, m1, m2⟩ := h.2.2.2.2.2
  refine ⟨_, tbR4_eq t2 (by omega) m2 (by omega), ?_⟩
  have a0 : WS e B (if t < 6 then si (sl B 186 t v2) 187 t v4 else B) := by
    by_cases h6 : t < 6
    · rw [if_pos h6]
      have q1 := h.l (a := 186) (j := t) (x := v2) (by omega)
      exact q1.tr (q1.2.2.a (a := 187) (by omega))
    · rw [if_neg h6]; exact h.rf
  have a1 := a0.2.2.a (a := 188) (j := m) (x := 0) (by omega)
  have a2 := a1.2.2.a (a := 189) (j := m) (x := v5) (by omega)
  have a3 := a2.2.2.a (a := 190) (j := m) (x := ni t) (by omega)
  have a4 := a3.2.2.cnt (j := 21) (q := m + 1) (Or.inr (Or.inr (Or.inr ⟨rfl, by omega⟩)))
  exact ((((a0.tr a1).tr a2).tr a3).tr a4).tr (a4.2.2.cnt (j := 18) (q := t + 1) (Or.inr (Or.inr (Or.inl ⟨rfl, by omega⟩))))
theorem WB.tb3 {e : Nat} {B : Mem} (h : WB e B) (he : e < 40) {v2 : Int64} {v4 v5 : Int32} : ∃ B', tbR3 v2 v4 v5 B = some ((), B') ∧ WS (e + 2) B B' := by
  have a1 := h.f (j := 33) (x := 0) (by omega)
  obtain ⟨B', r1, r2⟩ := a1.2.2.tb4 he (v2 := v2) (v4 := v4) (v5 := v5)
  unfold tbR3
  rw [wr_must a1.2.2.2.1, bS]
  exact ⟨B', r1, a1.tr r2⟩
theorem WB.whole {e : Nat} {B : Mem} (h : WB e B) (he : e < 80) : ∃ B', S_X11_whole B = some ((), B') ∧ WS (e + 1) B B' := by
  have a1 := h.f (j := 31) (x := 0) (by omega)
  obtain ⟨B2, r1, r2⟩ := a1.2.2.emit (by omega) (w := 11) (v := 0) (z := -1)
  unfold S_X11_whole
  rw [wr_formula (F := 13) a1.2.2.2.1, bS]; dsimp only
  rw [r1, bS]
  exact ⟨B2, rfl, a1.tr r2⟩
theorem gl_si' {M : Mem} {a j b : Nat} {x : Int32} : gl (si M a j x) b = gl M b := rfl
section Tb
variable {by_ : Nat → Nat} {n T own : Nat} {wd : Nat → Int64}
/-- a word's fault is told at its own place, if it must be -/
theorem tellw {A B : Mem} {i c r kk : Nat} (h : R by_ n T own wd i c r A B) (hk : 300 ≤ kap by_ n T wd i) (hf : fk (kap by_ n T wd i) = kk) (hkk : kk < 10) (h0 : 0 < kk) : ∃ A' B', ((S_X4_place A).bind fun w9 => S_X4_note (ni kk) w9.1 w9.2) = some ((), A') ∧ S_X11_tells (ni kk) (gi B 181 7) B = some ((), B') ∧ FrC A A' ∧ FrB B B' ∧ R by_ n T own wd i c r A' B' ∧ Kb c r A B A' B' ∧ ¬ gi A' 7 6 = 0 := by
  obtain ⟨A', B', u1, u2, u3, u4, u5, u6, u7, u8, u9, u10, u11, u12, u13⟩ := tell (k := kk) (q := pfN by_ n i) h hkk h0 (Nat.le_refl _) (Or.inr ⟨hk, hf.symm⟩) (by rw [← hf]; exact FI.at h)
  refine ⟨A', B', ?_, ?_, u3, u4, u5, ⟨fun j _ => ⟨by rw [u6], by rw [u7]⟩, fun j _ => ⟨by rw [u9], by rw [u10], by rw [u11]⟩, fun Y e => by rw [u8]; exact e, fun _ => u13⟩, u13⟩
  · rw [place_eq h, bS]; exact u1
  · rw [where_eq h]; exact u2
/-- consts and rule stand as they stood -/
def QK (A B A' B' : Mem) : Prop := gl A' 11 = gl A 11 ∧ gi A' 12 = gi A 12 ∧ gi A' 8 3 = gi A 8 3 ∧ gl B' 184 = gl B 184 ∧ gi B' 185 = gi B 185 ∧ gi B' 181 26 = gi B 181 26
theorem QK.trans {A B A1 B1 A2 B2 : Mem} (h : QK A B A1 B1) (g : QK A1 B1 A2 B2) : QK A B A2 B2 := ⟨g.1.trans h.1, g.2.1.trans h.2.1, g.2.2.1.trans h.2.2.1, g.2.2.2.1.trans h.2.2.2.1, g.2.2.2.2.1.trans h.2.2.2.2.1, g.2.2.2.2.2.trans h.2.2.2.2.2⟩
theorem qk_fr {A B A' B' : Mem} (f : FrC A A') (g : FrB B B') : QK A B A' B' := ⟨f.2.2.1 11 (by omega), f.2.1 12 (by omega) (by omega) (by omega), f.2.2.2.2 3 (by omega) (by omega), g.2.2.1 184 (by omega) (by omega), g.2.1 185 (by omega) (by omega) (by omega), g.2.2.2.1 26 (by omega)⟩
/-- what a step comes to -/
def StP (by_ : Nat → Nat) (n T own : Nat) (wd : Nat → Int64) (d i c r k t s m y : Nat) (A B A' B' : Mem) : Prop := ∃ i' c' r' t' s' m' y', R by_ n T own wd i' c' r' A' B' ∧ Cx0 A' B' ∧ Ct k t' s' m' y' A' B' ∧ (c' ≤ pfN by_ n i' ∧ r' ≤ pfN by_ n i' ∧ k ≤ pfN by_ n i' ∧ t' ≤ pfN by_ n i' ∧ s' ≤ pfN by_ n i' ∧ 3 * m' ≤ pfN by_ n i') ∧ (c ≤ c' ∧ r ≤ r' ∧ t ≤ t' ∧ s ≤ s' ∧ m ≤ m' ∧ y ≤ y' ∧ 3 * m' + pfN by_ n i + 1 ≤ 3 * m + pfN by_ n i') ∧ Rl A' B' ∧ Cn own c' r' k t' s' y' A' B' ∧ KO c r m y A B A' B' ∧ (gi A' 7 6 = 0 → TS own d c c' m m' y y' r' t' A' B' ∧ m' ≤ m + 3 * (s' - s) ∧ QK A B A' B')
theorem lk_table {A B : Mem} {i c r k t s m y d : Nat} (h : R by_ n T own wd i c r A B) (hk : kap by_ n T wd i = 303) (cx : Cx0 A B) (ct : Ct k t (s + 1) m y A B) (hb : c ≤ pfN by_ n i ∧ r ≤ pfN by_ n i ∧ k ≤ pfN by_ n i ∧ t ≤ pfN by_ n i ∧ s ≤ pfN by_ n i ∧ 3 * m ≤ pfN by_ n i) (rl : Rl A B) (cn : Cn own c r k t (s + 1) y A B) :
    ∃ A' B', S_X4_readTable A = some ((), A') ∧ S_X11_table B = some ((), B') ∧ FrC2 A A' ∧ FrB2 B B' ∧ (Br n T 10 A' B' ∨ StP by_ n T own wd d i c r k t s m y A B A' B') := by
  have p9 := h.p9
  -- too many tables?
  obtain ⟨A1, B1, f1, f2, f3, f4, f5, f6, f7⟩ : ∃ A1 B1, S_X4_readTable A = SJ_X4_readTable_23 (ni (m8 6 t)) A1 ∧ S_X11_table B = SJ_X11_table_18 B1 ∧ FrC A A1 ∧ FrB B B1 ∧ R by_ n T own wd i c r A1 B1 ∧ Kb c r A B A1 B1 ∧ (t < 6 ∨ ¬ gi A1 7 6 = 0) := by
    unfold S_X4_readTable S_X11_table
    rw [ct.2.1.1, ct.2.1.2]
    by_cases t6 : t < 6
    · rw [show m8 6 t = t from if_pos (by omega), if_pos (show ni t < 6 from (ni_lt (b := 6) (by omega) (by omega)).mpr t6), if_pos (show ni t < 6 from (ni_lt (b := 6) (by omega) (by omega)).mpr t6)]
      exact ⟨A, B, rfl, rfl, FrC.rf, FrB.rf, h, Kb.rf, Or.inl t6⟩
    · have e6 : m8 6 t = 6 := by unfold m8; split <;> omega
      obtain ⟨A1, B1, q1, q2, q3, q4, q5, q6, q7⟩ := tellw (kk := 5) h (by omega) (by rw [hk]; rfl) (by omega) (by omega)
      rw [e6, if_neg (show ¬ ni 6 < 6 by decide), if_neg (show ¬ ni t < 6 from fun e => t6 ((ni_lt (b := 6) (by omega) (by omega)).mp e))]
      have q1' : ((S_X4_place A).bind fun w9 => (S_X4_note (5 : Int32) w9.1 w9.2).bind fun w10 => SJ_X4_readTable_23 (ni 6) w10.2) = SJ_X4_readTable_23 (ni 6) A1 := by
        rw [place_eq h, bS] at q1 ⊢
        have q1 : S_X4_note 5 (ni (pfN by_ n i)) A = some ((), A1) := q1
        dsimp only
        rw [q1, bS]
      have q2 : S_X11_tells 5 (gi B 181 7) B = some ((), B1) := q2
      rw [q1', q2, bS]
      exact ⟨A1, B1, rfl, rfl, q3, q4, q5, q6, Or.inr q7⟩
  rw [f1, f2, tbC_eq]
  have ct1 := ct.fr f3 f4
  have cn1 := cn.fr f3 f4 f6 (Nat.le_refl _) (Nat.le_refl _)
  obtain ⟨B2, a1, a2, a3, a4, a5, a6, a7, a8⟩ := adv' f5 (by omega)
  have w3 := word3 f5 (w := 3) (by rw [hk]) (by omega)
  have ct2 := ct1.fr a4 a5
  have cn2 := cn1.fr a4 a5 a6 (Nat.le_refl _) (Nat.le_refl _)
  have p92 := a2.p9
  unfold SJ_X11_table_18
  rw [a1, bS]; dsimp only
  have k02 : KO c r m y A B (si A1 7 2 (gi A1 7 2 + 1)) B2 := (ko_fr f3 f4 f6).trans (ko_fr a4 a5 a6) (Nat.le_refl _) (Nat.le_refl _) (Nat.le_refl m) (Nat.le_refl y)
  rcases lk_newName a2 (by omega) ct2 (by omega) (by omega) cn2.nm with ⟨x, z, A3, B3, b1, b2, b3, b4, b5⟩ | ⟨A3, B3, Bm, nm, b1, b2, b3, b4, b5, b6, b7, b8, b9, b10⟩
  · have br := br_of b5 (by omega) (ct2.fr b3 b4) (by omega) (by omega) (by omega)
    rw [b1, b2, bS, bS]; dsimp only
    rw [if_neg br.2.1.2.1]
    obtain ⟨A4, c1, c2⟩ := br.1.tb1 (v1 := ni (m8 6 t)) (nm := x)
    rw [c1]
    exact ⟨A4, B3, rfl, rfl, (k02.1.trans b3.to2).trans c2.1, k02.2.1.trans b4.to2, Or.inl (br.go c2 (br.2.1.mono (by omega)).rf)⟩
  · rw [b1, b2, bS, bS]; dsimp only
    rw [if_pos b3, b4 (SJ_X11_table_54 (nl nm))]
    have ct3 := ct2.fr b5 b6
    have cn3 := cn2.fr b5 b6 b8 (Nat.le_refl _) (Nat.le_refl _)
    have k03 : KO c r m y A B A3 B3 := k02.trans (ko_fr b5 b6 b8) (Nat.le_refl _) (Nat.le_refl _) (Nat.le_refl m) (Nat.le_refl y)
    have p93 := b7.p9
    unfold tbC1 SJ_X11_table_54
    have n12 : (12 : Int32) = ni 12 := rfl
    rcases lk_number (hi := 12) b7 (by omega) (by omega) with ⟨x, z, A4, B4, g1, g2, g3, g4, g5⟩ | ⟨A4, B4, Bm', q, g1, g2, g3, g4, g5, g6, g7, g8, g9, g10, g11⟩
    · have br := br_of g5 (by omega) (ct3.fr g3 g4) (by omega) (by omega) (by omega)
      have g1 : S_X4_takeNumber 1 12 A3 = some (x, A4) := g1
      rw [g1, g2, bS, bS]; dsimp only
      rw [if_neg br.2.1.2.1]
      obtain ⟨A5, c1, c2⟩ := br.1.tb2 (v1 := ni (m8 6 t)) (nm := nl nm) (num := x)
      rw [c1]
      exact ⟨A5, B4, rfl, rfl, (k03.1.trans g3.to2).trans c2.1, k03.2.1.trans g4.to2, Or.inl (br.go c2 (br.2.1.mono (by omega)).rf)⟩
    · have g1 : S_X4_takeNumber 1 12 A3 = some (nl q, A4) := g1
      rw [g1, g2, bS, bS]; dsimp only
      rw [if_pos g3]
      have g5' := g5 (SJ_X11_table_92 (nl nm) (ni q))
      have e86 : (if ni q < (1 : Int32) then SJ_X11_table_86 (gi B3 181 7) (nl nm) (ni q) Bm' else if ni q ≤ 12 then SJ_X11_table_92 (nl nm) (ni q) Bm' else SJ_X11_table_86 (gi B3 181 7) (nl nm) (ni q) Bm') = SJ_X11_table_92 (nl nm) (ni q) B4 := g5'
      rw [e86, tbR_eq]
      have ct4 := ct3.fr g6 g7
      have cn4 := cn3.fr g6 g7 g9 (Nat.le_refl _) (Nat.le_refl _)
      have k04 : KO c r m y A B A4 B4 := k03.trans (ko_fr g6 g7 g9) (Nat.le_refl _) (Nat.le_refl _) (Nat.le_refl m) (Nat.le_refl y)
      have p94 := g8.p9
      obtain ⟨x, A5, B5, l1, l2, l3, l4, l5⟩ := lk_take g8 (by omega) (b := 61) (x := 61) rfl (by omega) (by omega)
      unfold tbC2
      rw [l1, l2, bS, bS]; dsimp only
      have ct5 := ct4.fr l3 l4
      rcases l5 with l5 | ⟨l5, l6, l7, l8, l9⟩
      · have br := br_of l5 (by omega) ct5 (by omega) (by omega) (by omega)
        obtain ⟨A6, c1, c2⟩ := br.1.tb3 (v1 := ni (m8 6 t)) (nm := nl nm) (num := nl q)
        have w1 := br.2.1.f (j := 33) (x := 1) (by omega)
        obtain ⟨B6, w2, w3'⟩ := w1.2.2.whole (by omega)
        obtain ⟨B7, w4, w5⟩ := w3'.2.2.tb3 (by omega) (v2 := nl nm) (v4 := ni q) (v5 := gi B5 181 27)
        rw [c1, w2, bS]; dsimp only
        rw [w4]
        have ws := (w1.tr w3').tr w5
        exact ⟨A6, B7, rfl, rfl, (k04.1.trans l3.to2).trans c2.1, (k04.2.1.trans l4.to2).trans ws.1, Or.inl (br.go c2 ⟨ws.1, ws.2.1, ws.2.2.mono (by omega)⟩)⟩
      · have p95 := l8.p9
        have kb45 : Kb c r A4 B4 A5 B5 := by rw [l6]; exact kb_adv l7
        have cn5 := cn4.fr l3 l4 kb45 (Nat.le_refl _) (Nat.le_refl _)
        have k05 : KO c r m y A B A5 B5 := k04.trans (ko_fr l3 l4 kb45) (Nat.le_refl _) (Nat.le_refl _) (Nat.le_refl m) (Nat.le_refl y)
        have cx5 : gi B5 181 34 = 0 ∧ gi B5 181 33 = 0 ∧ gi A5 7 4 = 0 := by
          refine ⟨?_, ?_, ?_⟩
          · rw [l4.2.2.2.1 34 (by omega), g7.2.2.2.1 34 (by omega), b6.2.2.2.1 34 (by omega), a5.2.2.2.1 34 (by omega), f4.2.2.2.1 34 (by omega)]; exact cx.2.2
          · rw [l4.2.2.2.1 33 (by omega), g7.2.2.2.1 33 (by omega), b6.2.2.2.1 33 (by omega), a5.2.2.2.1 33 (by omega), f4.2.2.2.1 33 (by omega)]; exact cx.2.1
          · rw [l3.2.2.2.1 4 (by omega) (by omega) (by omega) (by omega), g6.2.2.2.1 4 (by omega) (by omega) (by omega) (by omega), b5.2.2.2.1 4 (by omega) (by omega) (by omega) (by omega), a4.2.2.2.1 4 (by omega) (by omega) (by omega) (by omega), f3.2.2.2.1 4 (by omega) (by omega) (by omega) (by omega)]; exact cx.1
        -- the class enters the table
        have eF : ¬ gi A5 7 6 = 0 ∨ t < 6 := by
          rcases f7 with f7 | f7
          · exact Or.inr f7
          · exact Or.inl ((((a6.tr' b8 (Nat.le_refl _) (Nat.le_refl _)).tr' g9 (Nat.le_refl _) (Nat.le_refl _)).tr' kb45 (Nat.le_refl _) (Nat.le_refl _)).2.2.2 f7)
        unfold tbC3
        obtain ⟨A6, m1, m2, m3, m4⟩ : ∃ A6, S_X0_addTable (nl nm) (nl q) A5 = some ((), A6) ∧ A6 = (if t < 6 then si (si (sl A5 13 t (nl nm)) 14 t (ni q)) 8 12 (ni (t + 1)) else A5) ∧ R by_ n T own wd (i + 1 + 1 + 1 + 1) c r A6 B5 ∧ KO c r m y A5 B5 A6 B5 := by
          unfold S_X0_addTable
          rw [ct5.2.1.1]
          by_cases t6 : t < 6
          · have e1 : gi (sl A5 13 t (nl nm)) 8 12 = ni t := by rw [show gi (sl A5 13 t (nl nm)) 8 12 = gi A5 8 12 from rfl, ct5.2.1.1, show m8 6 t = t from if_pos (by omega)]
            have e2 : gi (si (sl A5 13 t (nl nm)) 14 t (nl q).toInt32) 8 12 = ni t := by rw [gi_ne (by omega)]; exact e1
            rw [show m8 6 t = t from if_pos (by omega), if_neg (show ¬ (6 : Int32) ≤ ni t from fun e => by have := (ni_le (a := 6) (by omega) (by omega)).mp e; omega), gdT ((ni_inb (by omega)).mpr t6), ni_tn (by omega), e1, gdT ((ni_inb (by omega)).mpr t6), ni_tn (by omega), e2, nl_i, show ni t + 1 = ni (t + 1) from ni_add t 1, if_pos t6]
            exact ⟨_, rfl, rfl, rC_si (rC_si (rC_sl l8 (by omega)) (by omega)) (by omega), ((koC_sl (by omega)).trans (koC_si (by omega)) (Nat.le_refl _) (Nat.le_refl _) (Nat.le_refl _) (Nat.le_refl _)).trans (koC_si (by omega)) (Nat.le_refl _) (Nat.le_refl _) (Nat.le_refl _) (Nat.le_refl _)⟩
          · rw [show m8 6 t = 6 by unfold m8; split <;> omega, if_pos (show (6 : Int32) ≤ ni 6 by decide), if_neg t6]
            exact ⟨_, rfl, rfl, l8, KO.rf⟩
        rw [m1, bS]; dsimp only
        rw [emC_eq m3.2.2.2.2.2.2.2.1 (by omega), bS]; dsimp only
        rw [show gi (emA A6 c 17 0) 8 6 = ni (c + 1) from si_eq]
        have r7 := r_emA (o := 17) (a := 0) m3
        have r8 := r_ctx (x := 1) (y := 1) (f := 33) r7 (by omega) (by
          rw [si_eq, si_ff' (by omega), cx5.1]; decide)
        obtain ⟨A9, B9, s1, s2, s3, s4, s5⟩ := lk_whole (qq := 1) r8 ⟨by omega, si_eq⟩ (by omega) (by omega)
        rw [s1, s2, bS, bS]; dsimp only
        have k06 : KO c r m y A B A6 B5 := k05.trans m4 (Nat.le_refl _) (Nat.le_refl _) (Nat.le_refl _) (Nat.le_refl _)
        have k07 : KO c r m y A B (emA A6 c 17 0) B5 := k06.trans (ko_fr emA_fr FrB.rf kb_emA) (Nat.le_refl _) (Nat.le_refl _) (Nat.le_refl m) (Nat.le_refl y)
        have k08 : KO c r m y A B (si (emA A6 c 17 0) 7 4 1) (si B5 181 33 1) := (k07.trans (koC_si (by omega)) (Nat.le_refl _) (Nat.le_refl _) (Nat.le_refl _) (Nat.le_refl _)).trans (koB_si (by omega)) (Nat.le_refl _) (Nat.le_refl _) (Nat.le_refl _) (Nat.le_refl _)
        -- counters before the formula (the class has counted the table already)
        have e6t : gi A6 8 12 = ni (m8 6 (t + 1)) := by
          rw [m2]
          by_cases t6 : t < 6
          · rw [if_pos t6, si_eq, show m8 6 (t + 1) = t + 1 from if_pos (by omega)]
          · rw [if_neg t6, ct5.2.1.1, show m8 6 t = 6 by unfold m8; split <;> omega, show m8 6 (t + 1) = 6 by unfold m8; split <;> omega]
        have e6o : ∀ j, j ≠ 12 → gi A6 8 j = gi A5 8 j := by
          intro j hj
          rw [m2]
          by_cases t6 : t < 6
          · rw [if_pos t6, si_ff' hj, gi_ne (by omega), gi_sl]
          · rw [if_neg t6]
        have e9C : ∀ j, j ≠ 1 → j ≠ 6 → gi A9 8 j = gi A6 8 j := fun j j1 j2 => by
          rw [s3.2.2.2.2 j j1 j2, gi_ne (by omega), emA_f (by omega) (by omega)]
        have e9B : ∀ j, (11 < j ∧ j < 27) → gi B9 181 j = gi B5 181 j := fun j hj => by
          rw [s4.2.2.2.1 j (by omega), si_ff' (by omega)]
        have br9 : Bk by_ n T own wd 1121 A9 B9 → Br n T 0 A9 B9 := fun g => by
          obtain ⟨hs, h1, h2, h3, h4, h5, ⟨r', r1, r2⟩⟩ := g
          refine ⟨⟨hs.1, ⟨hs.2.2.2.2.2.1.2.1, hs.tn, hs.n9⟩, h1, h4, h5, ⟨_, @m8_le 8 k, ?_⟩, ⟨_, @m8_le 6 (t + 1), ?_⟩, ⟨y, ct.2.2.2.2.2, ?_⟩⟩, ⟨hs.2.1, h2, ⟨r', by omega, r2⟩, ⟨k, by omega, ?_⟩, ⟨t, by omega, ?_⟩, ⟨m, by omega, ?_⟩⟩, h3⟩
          · rw [e9C 9 (by omega) (by omega), e6o 9 (by omega)]; exact ct5.1.1
          · rw [e9C 12 (by omega) (by omega)]; exact e6t
          · rw [e9C 16 (by omega) (by omega), e6o 16 (by omega)]; exact ct5.2.2.2.2.1
          · rw [e9B 15 (by omega)]; exact ct5.1.2
          · rw [e9B 18 (by omega)]; exact ct5.2.1.2
          · rw [e9B 21 (by omega)]; exact ct5.2.2.2.1
        rcases s5 with s5 | ⟨i9, n9, o1, o2, o3, o4, o5⟩
        · have br := br9 s5
          obtain ⟨A10, c1, c2⟩ := br.1.tb4 (v1 := ni (m8 6 t)) (v0 := ni (c + 1))
          obtain ⟨B10, w4, w5⟩ := br.2.1.tb3 (by omega) (v2 := nl nm) (v4 := ni q) (v5 := gi B5 181 27)
          rw [c1, w4]
          exact ⟨A10, B10, rfl, rfl, (k08.1.trans s3.to2).trans c2.1, (k08.2.1.trans s4.to2).trans w5.1, Or.inl (br.go c2 ⟨w5.1, w5.2.1, w5.2.2.mono (by omega)⟩)⟩
        · -- the end of the table
          have p99 := o1.p9
          have c9 : gi B9 181 34 = 0 := by rw [s4.2.2.2.1 34 (by omega), si_ff' (by omega)]; exact cx5.1
          have r10 := r_ctx (x := 0) (y := 0) (f := 33) o1 (by omega) (by
            rw [si_eq, si_ff' (by omega), c9]; decide)
          unfold tbC4 tbR3
          have ea : ((ni (c + 1)).toInt64 * (8 : Int64)) + (ni (m8 6 t)).toInt64 = nl ((c + 1) * 8 + m8 6 t) := by
            rw [ni_l (by omega), ni_l (by have := @m8_le 6 t; omega), show nl (c + 1) * 8 = nl ((c + 1) * 8) from nl_mul (c + 1) 8, nl_add]
          rw [ea, emC_eq r10.2.2.2.2.2.2.2.1 (by omega), bS]; dsimp only
          have r11 := r_emA (o := 18) (a := nl ((c + 1) * 8 + m8 6 t)) r10
          obtain ⟨x, A12, B12, z1, z2, z3, z4, z5⟩ := lk_take r11 (by omega) (b := 59) (x := 59) rfl (by omega) (by omega)
          rw [z1, z2, bS, bS]; dsimp only
          have k10 : KO c r m y A B (emA (si A9 7 4 0) (c + 1 + n9) 18 (nl ((c + 1) * 8 + m8 6 t))) (si B9 181 33 0) :=
            (((k08.trans (ko_fr s3 s4 o2) (by omega) (Nat.le_refl _) (Nat.le_refl m) (Nat.le_refl y)).trans (koC_si (by omega)) (Nat.le_refl _) (Nat.le_refl _) (Nat.le_refl _) (Nat.le_refl _)).trans (koB_si (by omega)) (Nat.le_refl _) (Nat.le_refl _) (Nat.le_refl _) (Nat.le_refl _)).trans (ko_fr emA_fr FrB.rf (kb_emA (r := r))) (by omega) (Nat.le_refl _) (Nat.le_refl m) (Nat.le_refl y)
          have e12C : ∀ j, j ≠ 1 → j ≠ 6 → gi A12 8 j = gi A6 8 j := fun j j1 j2 => by
            rw [z3.2.2.2.2 j j1 j2, emA_f (by omega) (by omega), gi_ne (by omega)]; exact e9C j j1 j2
          have e12B : ∀ j, (11 < j ∧ j < 27) → gi B12 181 j = gi B5 181 j := fun j hj => by
            rw [z4.2.2.2.1 j (by omega), si_ff' (by omega)]; exact e9B j hj
          have m12 : gi B12 181 21 = ni m := by rw [e12B 21 (by omega)]; exact ct5.2.2.2.1
          have t12 : gi B12 181 18 = ni t := by rw [e12B 18 (by omega)]; exact ct5.2.1.2
          rcases z5 with z5 | ⟨z5, z6, z7, z8, z9⟩
          · have br : Br n T 0 A12 B12 := by
              obtain ⟨hs, h1, h2, h3, h4, h5, ⟨r', r1, r2⟩⟩ := z5
              refine ⟨⟨hs.1, ⟨hs.2.2.2.2.2.1.2.1, hs.tn, hs.n9⟩, h1, h4, h5, ⟨_, @m8_le 8 k, ?_⟩, ⟨_, @m8_le 6 (t + 1), ?_⟩, ⟨y, ct.2.2.2.2.2, ?_⟩⟩, ⟨hs.2.1, h2, ⟨r', by omega, r2⟩, ⟨k, by omega, ?_⟩, ⟨t, by omega, t12⟩, ⟨m, by omega, m12⟩⟩, h3⟩
              · rw [e12C 9 (by omega) (by omega), e6o 9 (by omega)]; exact ct5.1.1
              · rw [e12C 12 (by omega) (by omega)]; exact e6t
              · rw [e12C 16 (by omega) (by omega), e6o 16 (by omega)]; exact ct5.2.2.2.2.1
              · rw [e12B 15 (by omega)]; exact ct5.1.2
            obtain ⟨B13, w4, w5⟩ := br.2.1.tb4 (by omega) (v2 := nl nm) (v4 := ni q) (v5 := gi B5 181 27)
            rw [w4]
            exact ⟨A12, B13, rfl, rfl, k10.1.trans z3.to2, (k10.2.1.trans z4.to2).trans w5.1, Or.inl (br.go br.1.rf ⟨w5.1, w5.2.1, w5.2.2.mono (by omega)⟩)⟩
          · have p12 := z8.p9
            rw [tbR4_eq t12 (by omega) m12 (by omega), l8.2.2.2.2.2.2.2.2.1]
            have kb12 : ∀ {c' r'}, Kb c' r' (emA (si A9 7 4 0) (c + 1 + n9) 18 (nl ((c + 1) * 8 + m8 6 t))) (si B9 181 33 0) A12 B12 := by intro c' r'; rw [z6]; exact kb_adv z7
            have k12 : KO c r m y A B A12 B12 := k10.trans (ko_fr z3 z4 kb12) (Nat.le_refl _) (Nat.le_refl _) (Nat.le_refl m) (Nat.le_refl y)
            -- the reference's rows
            obtain ⟨B13, hB13, r13, k13, x13⟩ : ∃ B13, B13 = (if t < 6 then si (sl B12 186 t (nl nm)) 187 t (ni q) else B12) ∧ R by_ n T own wd (i9 + 1) (c + 1 + n9 + 1) (r + n9 + 1) A12 B13 ∧ KO (c + 1 + n9 + 1) (r + n9 + 1) m y A12 B12 A12 B13 ∧ (∀ j, gi B13 181 j = gi B12 181 j) := by
              by_cases t6 : t < 6
              · rw [if_pos t6]
                exact ⟨_, rfl, rB_si (rB_sl z8 (by omega)) (by omega), (koB_sl (by omega)).trans (koB_si (by omega)) (Nat.le_refl _) (Nat.le_refl _) (Nat.le_refl _) (Nat.le_refl _), fun j => by rw [gi_ne (by omega), gi_sl]⟩
              · rw [if_neg t6]; exact ⟨_, rfl, z8, KO.rf, fun j => rfl⟩
            rw [← hB13]
            have r14 := rB_si (a := 181) (j := 18) (x := ni (t + 1)) (rB_si (a := 181) (j := 21) (x := ni (m + 1)) (rB_si (a := 190) (j := m) (x := ni t) (rB_si (a := 189) (j := m) (x := ni r) (rB_si (a := 188) (j := m) (x := 0) r13 (by omega)) (by omega)) (by omega)) (by omega)) (by omega)
            have k14 : KO (c + 1 + n9 + 1) (r + n9 + 1) m y A12 B12 A12 (si (si (si (si (si B13 188 m 0) 189 m (ni r)) 190 m (ni t)) 181 21 (ni (m + 1))) 181 18 (ni (t + 1))) :=
              ((((k13.trans (koB_si (by omega)) (Nat.le_refl _) (Nat.le_refl _) (Nat.le_refl _) (Nat.le_refl _)).trans (koB_si (by omega)) (Nat.le_refl _) (Nat.le_refl _) (Nat.le_refl _) (Nat.le_refl _)).trans (koB_si (by omega)) (Nat.le_refl _) (Nat.le_refl _) (Nat.le_refl _) (Nat.le_refl _)).trans (koB_si (by omega)) (Nat.le_refl _) (Nat.le_refl _) (Nat.le_refl _) (Nat.le_refl _)).trans (koB_si (by omega)) (Nat.le_refl _) (Nat.le_refl _) (Nat.le_refl _) (Nat.le_refl _)
            have kf : KO c r m y A B A12 (si (si (si (si (si B13 188 m 0) 189 m (ni r)) 190 m (ni t)) 181 21 (ni (m + 1))) 181 18 (ni (t + 1))) := k12.trans k14 (by omega) (by omega) (Nat.le_refl _) (Nat.le_refl _)
            have f14 : ∀ j, j ≠ 18 → j ≠ 21 → gi (si (si (si (si (si B13 188 m 0) 189 m (ni r)) 190 m (ni t)) 181 21 (ni (m + 1))) 181 18 (ni (t + 1))) 181 j = gi B12 181 j := fun j j1 j2 => by
              rw [si_ff' j1, si_ff' j2, gi_ne (by omega), gi_ne (by omega), gi_ne (by omega)]; exact x13 j
            have rows14 : ∀ a, a ≠ 181 → a ≠ 188 → a ≠ 189 → a ≠ 190 → gi (si (si (si (si (si B13 188 m 0) 189 m (ni r)) 190 m (ni t)) 181 21 (ni (m + 1))) 181 18 (ni (t + 1))) a = gi B13 a := fun a a1 a2 a3 a4 => by
              rw [gi_ne a1, gi_ne a1, gi_ne a4, gi_ne a3, gi_ne a2]
            generalize hB14 : si (si (si (si (si B13 188 m 0) 189 m (ni r)) 190 m (ni t)) 181 21 (ni (m + 1))) 181 18 (ni (t + 1)) = B14 at r14 k14 kf f14 rows14
            have l14 : gl B14 = gl B13 := by rw [← hB14]; rfl
            -- the class's rows since the table was entered
            have cA : gl A12 11 = gl A6 11 ∧ gi A12 12 = gi A6 12 ∧ gl A12 13 = gl A6 13 ∧ gi A12 14 = gi A6 14 := by
              refine ⟨?_, ?_, ?_, ?_⟩
              · rw [z3.2.2.1 11 (by omega), emA_fr.2.2.1 11 (by omega), gl_si', s3.2.2.1 11 (by omega), gl_si', emA_fr.2.2.1 11 (by omega)]
              · rw [z3.2.1 12 (by omega) (by omega) (by omega), emA_fr.2.1 12 (by omega) (by omega) (by omega), gi_ne (by omega), s3.2.1 12 (by omega) (by omega) (by omega), gi_ne (by omega), emA_fr.2.1 12 (by omega) (by omega) (by omega)]
              · rw [z3.2.2.1 13 (by omega), emA_fr.2.2.1 13 (by omega), gl_si', s3.2.2.1 13 (by omega), gl_si', emA_fr.2.2.1 13 (by omega)]
              · rw [z3.2.1 14 (by omega) (by omega) (by omega), emA_fr.2.1 14 (by omega) (by omega) (by omega), gi_ne (by omega), s3.2.1 14 (by omega) (by omega) (by omega), gi_ne (by omega), emA_fr.2.1 14 (by omega) (by omega) (by omega)]
            have cB : gl B12 184 = gl B5 184 ∧ gi B12 185 = gi B5 185 ∧ gl B12 186 = gl B5 186 ∧ gi B12 187 = gi B5 187 := by
              refine ⟨?_, ?_, ?_, ?_⟩
              · rw [z4.2.2.1 184 (by omega) (by omega), gl_si', s4.2.2.1 184 (by omega) (by omega), gl_si']
              · rw [z4.2.1 185 (by omega) (by omega) (by omega), gi_ne (by omega), s4.2.1 185 (by omega) (by omega) (by omega), gi_ne (by omega)]
              · rw [z4.2.2.1 186 (by omega) (by omega), gl_si', s4.2.2.1 186 (by omega) (by omega), gl_si']
              · rw [z4.2.1 187 (by omega) (by omega) (by omega), gi_ne (by omega), s4.2.1 187 (by omega) (by omega) (by omega), gi_ne (by omega)]
            have kb5 : Kb c r A5 B5 A12 B14 := (((((m4.2.2.2.1.trans kb_emA (Nat.le_refl _) (Nat.le_refl _)).trans (koC_si (m := 0) (y := 0) (a := 7) (j := 4) (by omega)).2.2.2.1 (Nat.le_refl _) (Nat.le_refl _)).trans (koB_si (m := 0) (y := 0) (a := 181) (j := 33) (by omega)).2.2.2.1 (Nat.le_refl _) (Nat.le_refl _)).trans o2 (by omega) (Nat.le_refl _)).trans (((koC_si (m := 0) (y := 0) (a := 7) (j := 4) (by omega)).2.2.2.1.trans (koB_si (m := 0) (y := 0) (a := 181) (j := 33) (by omega)).2.2.2.1 (Nat.le_refl _) (Nat.le_refl _)).trans (kb_emA (c := c + 1 + n9) (r := r)) (Nat.le_refl _) (Nat.le_refl _)) (by omega) (Nat.le_refl _)).trans (kb12.trans (k14.2.2.2.1) (Nat.le_refl (c + 1 + n9 + 1)) (Nat.le_refl (r + n9 + 1))) (by omega) (by omega)
            refine ⟨_, _, rfl, rfl, kf.1, kf.2.1, Or.inr ⟨i9 + 1, c + 1 + n9 + 1, r + n9 + 1, t + 1, s + 1, m + 1, y, r14, ⟨?_, ?_, ?_⟩, ⟨⟨?_, ?_⟩, ⟨?_, ?_⟩, ⟨?_, ?_⟩, ?_, ?_, ct.2.2.2.2.2⟩, ⟨by omega, by omega, by omega, by omega, by omega, by omega⟩, ⟨by omega, by omega, by omega, by omega, by omega, by omega, by omega⟩, ?_, ?_, kf, ?_⟩⟩
            · rw [z3.2.2.2.1 4 (by omega) (by omega) (by omega) (by omega), emA_f (by omega) (by omega), si_eq]
            · rw [f14 33 (by omega) (by omega), z4.2.2.2.1 33 (by omega), si_eq]
            · rw [f14 34 (by omega) (by omega), z4.2.2.2.1 34 (by omega), si_ff' (by omega)]; exact c9
            · rw [e12C 9 (by omega) (by omega), e6o 9 (by omega)]; exact ct5.1.1
            · rw [f14 15 (by omega) (by omega), e12B 15 (by omega)]; exact ct5.1.2
            · rw [e12C 12 (by omega) (by omega)]; exact e6t
            · rw [← hB14, si_eq]
            · rw [e12C 2 (by omega) (by omega), e6o 2 (by omega)]; exact ct5.2.2.1.1
            · rw [f14 22 (by omega) (by omega), e12B 22 (by omega)]; exact ct5.2.2.1.2
            · rw [← hB14, si_ff' (by omega), si_eq]
            · rw [e12C 16 (by omega) (by omega), e6o 16 (by omega)]; exact ct5.2.2.2.2.1
            · have e8 : gi A12 8 3 = gi A 8 3 := by
                rw [e12C 3 (by omega) (by omega), e6o 3 (by omega), l3.2.2.2.2 3 (by omega) (by omega), g6.2.2.2.2 3 (by omega) (by omega), b5.2.2.2.2 3 (by omega) (by omega), a4.2.2.2.2 3 (by omega) (by omega), f3.2.2.2.2 3 (by omega) (by omega)]
              have e26 : gi B14 181 26 = gi B 181 26 := by
                rw [f14 26 (by omega) (by omega), e12B 26 (by omega), l4.2.2.2.1 26 (by omega), g7.2.2.2.1 26 (by omega), b6.2.2.2.1 26 (by omega), a5.2.2.2.1 26 (by omega), f4.2.2.2.1 26 (by omega)]
              unfold Rl
              rw [e8, e26]; exact rl
            · -- what stands in the draft
              intro e0
              have e5 : gi A5 7 6 = 0 := Classical.byContradiction fun z => kb5.2.2.2 z e0
              have t6 : t < 6 := by
                rcases eF with q | q
                · exact absurd e5 q
                · exact q
              have e4 : gi A4 7 6 = 0 := Classical.byContradiction fun z => kb45.2.2.2 z e5
              obtain ⟨⟨h1, h2⟩, ⟨h3, h4⟩, h5, h6, h7⟩ := cn5 e5
              rw [if_pos t6] at m2 hB13
              refine ⟨⟨h1, fun j hj => ?_⟩, ⟨by omega, fun j hj => ?_⟩, h5, h6, ?_⟩
              · rw [cA.1, cA.2.1, l14, rows14 185 (by omega) (by omega) (by omega) (by omega), hB13, m2]
                rw [show gl (si (si (sl A5 13 t (nl nm)) 14 t (ni q)) 8 12 (ni (t + 1))) 11 = gl A5 11 from gl_ne (M := A5) (by omega), show gi (si (si (sl A5 13 t (nl nm)) 14 t (ni q)) 8 12 (ni (t + 1))) 12 = gi A5 12 by rw [gi_ne (by omega), gi_ne (by omega)]; rfl, show gl (si (sl B12 186 t (nl nm)) 187 t (ni q)) 184 = gl B12 184 from gl_ne (M := B12) (by omega), show gi (si (sl B12 186 t (nl nm)) 187 t (ni q)) 185 = gi B12 185 by rw [gi_ne (by omega)]; rfl, cB.1, cB.2.1]
                exact ⟨(h2 j hj).1, (h2 j hj).2.kb kb5 (by omega) (by omega)⟩
              · rw [cA.2.2.1, cA.2.2.2, l14, rows14 187 (by omega) (by omega) (by omega) (by omega), hB13, m2]
                have u1 : gl (si (si (sl A5 13 t (nl nm)) 14 t (ni q)) 8 12 (ni (t + 1))) 13 j = if j = t then nl nm else gl A5 13 j := by
                  rw [gl_si, gl_si, gl_sl]; by_cases e : j = t
                  · rw [if_pos ⟨rfl, e⟩, if_pos e]
                  · rw [if_neg (fun z => e z.2), if_neg e]
                have u2 : gi (si (si (sl A5 13 t (nl nm)) 14 t (ni q)) 8 12 (ni (t + 1))) 14 j = if j = t then ni q else gi A5 14 j := by
                  rw [gi_ne (by omega), gi_si]; by_cases e : j = t
                  · rw [if_pos ⟨rfl, e⟩, if_pos e]
                  · rw [if_neg (fun z => e z.2), if_neg e, gi_sl]
                have u3 : gl (si (sl B12 186 t (nl nm)) 187 t (ni q)) 186 j = if j = t then nl nm else gl B5 186 j := by
                  rw [gl_si, gl_sl]; by_cases e : j = t
                  · rw [if_pos ⟨rfl, e⟩, if_pos e]
                  · rw [if_neg (fun z => e z.2), if_neg e, cB.2.2.1]
                have u4 : gi (si (sl B12 186 t (nl nm)) 187 t (ni q)) 187 j = if j = t then ni q else gi B5 187 j := by
                  rw [gi_si]; by_cases e : j = t
                  · rw [if_pos ⟨rfl, e⟩, if_pos e]
                  · rw [if_neg (fun z => e z.2), if_neg e, gi_sl, cB.2.2.2]
                rw [u1, u2, u3, u4]
                by_cases e : j = t
                · rw [if_pos e, if_pos e, if_pos e, if_pos e]
                  have := g11 e4
                  exact ⟨rfl, rfl, q, this.1, this.2, rfl⟩
                · rw [if_neg e, if_neg e, if_neg e, if_neg e]
                  exact h4 j (by omega)
              · have e8 : gi A12 8 3 = gi A5 8 3 := by rw [e12C 3 (by omega) (by omega), e6o 3 (by omega)]
                have e26 : gi B14 181 26 = gi B5 181 26 := by rw [f14 26 (by omega) (by omega), e12B 26 (by omega)]
                rw [e8, e26]
                rcases h7 with h7 | h7
                · exact Or.inl h7
                · exact Or.inr (h7.kb kb5 (by omega) (by omega))
            · -- the step lies in both
              intro e0
              have e5 : gi A5 7 6 = 0 := Classical.byContradiction fun z => kb5.2.2.2 z e0
              have t6 : t < 6 := by
                rcases eF with q | q
                · exact absurd e5 q
                · exact q
              refine ⟨?_, by omega, by
                rw [if_pos t6] at m2 hB13
                have fA5 : FrC A A5 := (((f3.trans a4).trans b5).trans g6).trans l3
                have fB5 : FrB B B5 := (((f4.trans a5).trans b6).trans g7).trans l4
                refine ⟨?_, ?_, ?_, ?_, ?_, ?_⟩
                · rw [cA.1, m2, show gl (si (si (sl A5 13 t (nl nm)) 14 t (ni q)) 8 12 (ni (t + 1))) 11 = gl A5 11 from gl_ne (M := A5) (by omega)]; exact fA5.2.2.1 11 (by omega)
                · rw [cA.2.1, m2, gi_ne (by omega), gi_ne (by omega)]; exact fA5.2.1 12 (by omega) (by omega) (by omega)
                · rw [e12C 3 (by omega) (by omega), e6o 3 (by omega)]; exact fA5.2.2.2.2 3 (by omega) (by omega)
                · rw [l14, hB13, show gl (si (sl B12 186 t (nl nm)) 187 t (ni q)) 184 = gl B12 184 from gl_ne (M := B12) (by omega), cB.1]; exact fB5.2.2.1 184 (by omega) (by omega)
                · rw [rows14 185 (by omega) (by omega) (by omega) (by omega), hB13, show gi (si (sl B12 186 t (nl nm)) 187 t (ni q)) 185 = gi B12 185 by rw [gi_ne (by omega)]; rfl, cB.2.1]; exact fB5.2.1 185 (by omega) (by omega) (by omega)
                · rw [f14 26 (by omega) (by omega), e12B 26 (by omega)]; exact fB5.2.2.2.1 26 (by omega)⟩
              have kb9 : Kb (c + 1 + n9) (r + n9 + 1) A9 B9 A12 B14 := ((((koC_si (m := 0) (y := 0) (a := 7) (j := 4) (by omega)).2.2.2.1.trans (koB_si (m := 0) (y := 0) (a := 181) (j := 33) (by omega)).2.2.2.1 (Nat.le_refl _) (Nat.le_refl _)).trans kb_emA (Nat.le_refl _) (Nat.le_refl _)).trans kb12 (Nat.le_refl _) (Nat.le_refl _)).trans k14.2.2.2.1 (by omega) (by omega)
              have ef := o4.kb kb9 (Nat.le_refl _) (by omega)
              have row1 : gi A12 9 c = 17 := by
                rw [(kb9.1 c (by omega)).1, (o2.1 c (by omega)).1, gi_ne (by omega), emA_9, if_pos rfl]
              have row2 : gi A12 9 (c + 1 + n9) = 18 ∧ gl A12 10 (c + 1 + n9) = nl ((c + 1) * 8 + t) := by
                have q := (kb12 (c' := c + 1 + n9 + 1) (r' := 0)).1 (c + 1 + n9) (by omega)
                rw [q.1, q.2, emA_9, if_pos rfl, emA_10, if_pos rfl, show m8 6 t = t from if_pos (by omega)]
                exact ⟨rfl, rfl⟩
              have row3 : gi B14 191 (r + n9) = 11 := (kb9.2.1 (r + n9) (by omega)).1.trans o5
              have mk : gi B14 188 m = 0 ∧ gi B14 189 m = ni r ∧ gi B14 190 m = ni t := by
                rw [← hB14]
                refine ⟨?_, ?_, ?_⟩
                · rw [gi_ne (by omega), gi_ne (by omega), gi_ne (by omega), gi_ne (by omega), si_eq]
                · rw [gi_ne (by omega), gi_ne (by omega), gi_ne (by omega), si_eq]
                · rw [gi_ne (by omega), gi_ne (by omega), si_eq]
              intro o a w v z ld sk sa sw ts te es nt h1 h2 h3 h4 h5 h6
              have q1 := h1 c (by omega) (by omega)
              have q2 := h1 (c + 1 + n9) (by omega) (by omega)
              have q3 := h4 m (by omega) (by omega)
              have q4 := h2 (r + n9) (by omega)
              have K := t2_tr own ld o a w v z sk sa sw ts te es nt
              have fin := K.1 d (c + n9 + 2) (m + 1) y
              rw [show c + 1 + n9 + 1 = c + n9 + 2 by omega]
              exact K.2.2.1 d c (c + n9 + 2) m (m + 1) y y r n9 t (q1.1.trans row1) (ef e0 o a w v z ld (fun j j1 j2 => h1 j (by omega) (by omega)) (fun j j1 j2 => h2 j (by omega)) h3) (q2.1.trans row2.1) (q2.2.trans row2.2) (by omega) (q4.1.trans row3) (by omega) (q3.1.trans mk.1) (q3.2.1.trans mk.2.1) (q3.2.2.trans mk.2.2) fin
end Tb

-- needs: 74.sclsb 75.num 76.rel 77.cong 78.sim 79.qa 79.qb 79.ra 79.rb 79.rc 79.rd 79.re 79.rf 79.rg 79.rh 79.ri 79.rj 79.rk 79.rl 79.rm 79.rn 79.ro 79.rp
-- ===== a const =====
def cnC3 (nm : Int64) (M : Mem) : Option (Unit × Mem) :=
  (S_X0_emit (14 : Int32) (0 : Int64) M).bind fun w3 =>
  (S_X0_addConst nm w3.2).bind fun w4 =>
  (S_X4_readConstantSum w4.2).bind fun w5 => ruC3 w3.1 w5.2
theorem cnC_eq {M : Mem} : SJ_X4_readConst_21 M = (S_X4_takeNewName (si M 7 2 ((gi M 7 2) + (1 : Int32)))).bind fun w1 => (S_X4_take (61 : Int32) w1.2).bind fun w2 => cnC3 w1.1 w2.2 := rfl
theorem BC.cn3 {n T : Nat} {A : Mem} (h : BC n T A) {nm : Int64} : ∃ A', cnC3 nm A = some ((), A') ∧ BS n T A A' := by
  obtain ⟨x, A2, e1, e2⟩ := h.emit (o := 14) (a := 0)
  obtain ⟨A3, l1, l2⟩ := e2.2.2.addConst (x := nm)
  obtain ⟨A4, m1, m2⟩ := l2.2.2.ru3 (j := x)
  unfold cnC3
  rw [e1, bS]; dsimp only
  rw [l1, bS]; dsimp only
  rw [l2.2.2.constSum, bS]; dsimp only
  rw [m1]
  exact ⟨_, rfl, (e2.tr l2).tr m2⟩
def cnR4 (v2 : Int64) (v5 : Int32) (M : Mem) : Option (Unit × Mem) :=
  if (8 : Int32) ≤ (gi M 181 15) then
  (SJ_X11_aConst_106  M)
  else
  (gd (inb (gi M 181 15) 8) (
  gd (inb (gi (sl M 184 (gi M 181 15).toNatClampNeg v2) 181 15) 8) (
  SJ_X11_aConst_106  (si (sl M 184 (gi M 181 15).toNatClampNeg v2) 185 (gi (sl M 184 (gi M 181 15).toNatClampNeg v2) 181 15).toNatClampNeg v5))))
theorem cnR_eq {v2 : Int64} {M : Mem} : SJ_X11_aConst_54 v2 M = (S_X11_must (61 : Int32) M).bind fun w1 => (S_X11_plainSum w1.2).bind fun w2 => (S_X11_must (59 : Int32) w2.2).bind fun w3 => cnR4 v2 (gi w1.2 181 27) w3.2 := rfl
theorem cnR4_eq {B : Mem} {k : Nat} {v2 : Int64} {v5 : Int32} (ht : gi B 181 15 = ni k) (ht2 : k < 1000) :
    cnR4 v2 v5 B = some ((), si (if k < 8 then si (sl B 184 k v2) 185 k v5 else B) 181 15 (ni (k + 1))) := by
  unfold cnR4 SJ_X11_aConst_106
  by_cases h6 : k < 8
  · have e1 : gi (sl B 184 k v2) 181 15 = ni k := ht
    have e2 : gi (si (sl B 184 k v2) 185 k v5) 181 15 = ni k := by rw [gi_ne (by omega)]; exact e1
    rw [ht, if_neg (show ¬ (8 : Int32) ≤ ni k from fun e => by have := (ni_le (a := 8) (by omega) (by omega)).mp e; omega), gdT ((ni_inb (by omega)).mpr h6), ni_tn (by omega), e1, gdT ((ni_inb (by omega)).mpr h6), ni_tn (by omega), e2, if_pos h6, show ni k + 1 = ni (k + 1) from ni_add k 1]
  · rw [ht, if_pos (show (8 : Int32) ≤ ni k from (ni_le (a := 8) (by omega) (by omega)).mpr (by omega)), if_neg h6, show ni k + 1 = ni (k + 1) from ni_add k 1]
theorem WB.cn4 {e : Nat} {B : Mem} (h : WB e B) (he : e < 40) {v2 : Int64} {v5 : Int32} : ∃ B', cnR4 v2 v5 B = some ((), B') ∧ WS (e + 1) B B' := by
  obtain ⟨t, t1, t2⟩ := h.2.2.2.1
  refine ⟨_, cnR4_eq t2 (by omega), ?_⟩
  have a0 : WS e B (if t < 8 then si (sl B 184 t v2) 185 t v5 else B) := by
    by_cases h6 : t < 8
    · rw [if_pos h6]
      have q1 := h.l (a := 184) (j := t) (x := v2) (by omega)
      exact q1.tr (q1.2.2.a (a := 185) (by omega))
    · rw [if_neg h6]; exact h.rf
  exact a0.tr (a0.2.2.cnt (j := 15) (q := t + 1) (Or.inr (Or.inl ⟨rfl, by omega⟩)))
theorem WB.cn3 {e : Nat} {B : Mem} (h : WB e B) (he : e < 30) {v2 : Int64} {v5 : Int32} : ∃ B', ((SJ_X11_plainSum_57 B).bind fun w2 => (S_X11_must (59 : Int32) w2.2).bind fun w3 => cnR4 v2 v5 w3.2) = some ((), B') ∧ WS (e + 2) B B' := by
  obtain ⟨B1, r1, r2⟩ := h.emit (by omega) (w := 11) (v := 0) (z := -1)
  obtain ⟨B2, s1, s2⟩ := r2.2.2.cn4 (by omega) (v2 := v2) (v5 := v5)
  unfold SJ_X11_plainSum_57
  rw [r1, bS, bS]; dsimp only
  rw [wr_must r2.2.2.2.1, bS]; dsimp only
  rw [s1]
  exact ⟨_, rfl, r2.tr s2⟩
section Co
variable {by_ : Nat → Nat} {n T own : Nat} {wd : Nat → Int64}
theorem lk_const {A B : Mem} {i c r k t s m y : Nat} (h : Ou by_ n T own wd i c r k t s m y A B) (hk : kap by_ n T wd i = 301) :
    ∃ A' B', S_X4_readConst A = some ((), A') ∧ S_X11_aConst B = some ((), B') ∧ FrC2 A A' ∧ FrB2 B B' ∧ (Br n T 10 A' B' ∨ PaP by_ n T own wd i c r k t s m y A B A' B') := by
  obtain ⟨h, cx, ct, hb, rl, cn⟩ := h
  have p9 := h.p9
  obtain ⟨A1, B1, f1, f2, f3, f4, f5, f6, f7⟩ : ∃ A1 B1, S_X4_readConst A = SJ_X4_readConst_21 A1 ∧ S_X11_aConst B = SJ_X11_aConst_18 B1 ∧ FrC A A1 ∧ FrB B B1 ∧ R by_ n T own wd i c r A1 B1 ∧ Kb c r A B A1 B1 ∧ (k < 8 ∨ ¬ gi A1 7 6 = 0) := by
    unfold S_X4_readConst S_X11_aConst
    rw [ct.1.1, ct.1.2]
    by_cases k8 : k < 8
    · rw [show m8 8 k = k from if_pos (by omega), if_pos (show ni k < 8 from (ni_lt (b := 8) (by omega) (by omega)).mpr k8), if_pos (show ni k < 8 from (ni_lt (b := 8) (by omega) (by omega)).mpr k8)]
      exact ⟨A, B, rfl, rfl, FrC.rf, FrB.rf, h, Kb.rf, Or.inl k8⟩
    · have e6 : m8 8 k = 8 := by unfold m8; split <;> omega
      obtain ⟨A1, B1, q1, q2, q3, q4, q5, q6, q7⟩ := tellw (kk := 5) h (by omega) (by rw [hk]; rfl) (by omega) (by omega)
      rw [e6, if_neg (show ¬ ni 8 < 8 by decide), if_neg (show ¬ ni k < 8 from fun e => k8 ((ni_lt (b := 8) (by omega) (by omega)).mp e))]
      have q1' : ((S_X4_place A).bind fun w9 => (S_X4_note (5 : Int32) w9.1 w9.2).bind fun w10 => SJ_X4_readConst_21 w10.2) = SJ_X4_readConst_21 A1 := by
        rw [place_eq h, bS] at q1 ⊢
        have q1 : S_X4_note 5 (ni (pfN by_ n i)) A = some ((), A1) := q1
        dsimp only
        rw [q1, bS]
      have q2 : S_X11_tells 5 (gi B 181 7) B = some ((), B1) := q2
      rw [q1', q2, bS]
      exact ⟨A1, B1, rfl, rfl, q3, q4, q5, q6, Or.inr q7⟩
  rw [f1, f2, cnC_eq]
  obtain ⟨B2, a1, a2, a3, a4, a5, a6, a7, a8⟩ := adv' f5 (by omega)
  have w3 := word3 f5 (w := 1) (by rw [hk]) (by omega)
  have ct2 := (ct.fr f3 f4).fr a4 a5
  have kb02 : Kb c r A B (si A1 7 2 (gi A1 7 2 + 1)) B2 := f6.trans a6 (Nat.le_refl _) (Nat.le_refl _)
  have cn2 := cn.fr (f3.trans a4) (f4.trans a5) kb02 (Nat.le_refl _) (Nat.le_refl _)
  have p92 := a2.p9
  unfold SJ_X11_aConst_18
  rw [a1, bS]; dsimp only
  rcases lk_newName a2 (by omega) ct2 (by omega) (by omega) cn2.nm with ⟨x, z, A3, B3, b1, b2, b3, b4, b5⟩ | ⟨A3, B3, Bm, nm, b1, b2, b3, b4, b5, b6, b7, b8, b9, b10⟩
  · have br := br_of b5 (by omega) (ct2.fr b3 b4) (by omega) (by omega) (by omega)
    rw [b1, b2, bS, bS]; dsimp only
    rw [if_neg br.2.1.2.1, bk_take br.1.2.2.1 (by decide), bS]; dsimp only
    obtain ⟨A4, c1, c2⟩ := br.1.cn3 (nm := x)
    rw [c1]
    exact ⟨A4, B3, rfl, rfl, ((f3.trans a4).to2.trans b3.to2).trans c2.1, (f4.trans a5).to2.trans b4.to2, Or.inl (br.go c2 (br.2.1.mono (by omega)).rf)⟩
  · rw [b1, b2, bS, bS]; dsimp only
    rw [if_pos b3, b4 (SJ_X11_aConst_54 (nl nm)), cnR_eq]
    have p93 := b7.p9
    obtain ⟨x, A5, B5, l1, l2, l3, l4, l5⟩ := lk_take b7 (by omega) (b := 61) (x := 61) rfl (by omega) (by omega)
    rw [l1, l2, bS, bS]; dsimp only
    have f05 : FrC A A5 := ((f3.trans a4).trans b5).trans l3
    have g05 : FrB B B5 := ((f4.trans a5).trans b6).trans l4
    have ct5 := ct.fr f05 g05
    rcases l5 with l5 | ⟨l5, l6, l7, l8, l9⟩
    · have br := br_of l5 (by omega) ct5 (by omega) (by omega) (by omega)
      obtain ⟨A6, c1, c2⟩ := br.1.cn3 (nm := nl nm)
      obtain ⟨B6, w1, w2⟩ := br.2.1.cn3 (by omega) (v2 := nl nm) (v5 := gi B5 181 27)
      rw [c1, wr_plainSum br.2.1.2.1, w1]
      exact ⟨A6, B6, rfl, rfl, f05.to2.trans c2.1, g05.to2.trans w2.1, Or.inl (br.go c2 ⟨w2.1, w2.2.1, w2.2.2.mono (by omega)⟩)⟩
    · have p95 := l8.p9
      have kb35 : ∀ {c' r'}, Kb c' r' A3 B3 A5 B5 := by intro c' r'; rw [l6]; exact kb_adv l7
      have kb15 : Kb c r A1 B1 A5 B5 := (a6.trans b8 (Nat.le_refl _) (Nat.le_refl _)).trans kb35 (Nat.le_refl _) (Nat.le_refl _)
      have kb05 : Kb c r A B A5 B5 := f6.trans kb15 (Nat.le_refl _) (Nat.le_refl _)
      have cn5 := cn.fr f05 g05 kb05 (Nat.le_refl _) (Nat.le_refl _)
      unfold cnC3
      rw [emC_eq l8.2.2.2.2.2.2.2.1 (by omega), bS]; dsimp only
      have r6 := r_emA (o := 14) (a := 0) l8
      have ct6 : Ct k t s m y (emA A5 c 14 0) B5 := ct5.fr emA_fr FrB.rf
      obtain ⟨A7, m1, m2, m3, m4⟩ : ∃ A7, S_X0_addConst (nl nm) (emA A5 c 14 0) = some ((), A7) ∧ A7 = (if k < 8 then si (si (sl (emA A5 c 14 0) 11 k (nl nm)) 12 k (ni (c + 1))) 8 9 (ni (k + 1)) else emA A5 c 14 0) ∧ R by_ n T own wd (i + 1 + 1 + 1) (c + 1) r A7 B5 ∧ KO (c + 1) r m y (emA A5 c 14 0) B5 A7 B5 := by
        unfold S_X0_addConst
        rw [ct6.1.1]
        by_cases k8 : k < 8
        · have e1 : gi (sl (emA A5 c 14 0) 11 k (nl nm)) 8 9 = ni k := by rw [show gi (sl (emA A5 c 14 0) 11 k (nl nm)) 8 9 = gi (emA A5 c 14 0) 8 9 from rfl, ct6.1.1, show m8 8 k = k from if_pos (by omega)]
          have e0 : gi (sl (emA A5 c 14 0) 11 k (nl nm)) 8 6 = ni (c + 1) := by rw [gi_sl]; unfold emA; exact si_eq
          have e2 : gi (si (sl (emA A5 c 14 0) 11 k (nl nm)) 12 k (ni (c + 1))) 8 9 = ni k := by rw [gi_ne (by omega)]; exact e1
          rw [show m8 8 k = k from if_pos (by omega), if_neg (show ¬ (8 : Int32) ≤ ni k from fun e => by have := (ni_le (a := 8) (by omega) (by omega)).mp e; omega), gdT ((ni_inb (by omega)).mpr k8), ni_tn (by omega), e1, gdT ((ni_inb (by omega)).mpr k8), ni_tn (by omega), e0, e2, show ni k + 1 = ni (k + 1) from ni_add k 1, if_pos k8]
          exact ⟨_, rfl, rfl, rC_si (rC_si (rC_sl r6 (by omega)) (by omega)) (by omega), ((koC_sl (by omega)).trans (koC_si (by omega)) (Nat.le_refl _) (Nat.le_refl _) (Nat.le_refl _) (Nat.le_refl _)).trans (koC_si (by omega)) (Nat.le_refl _) (Nat.le_refl _) (Nat.le_refl _) (Nat.le_refl _)⟩
        · rw [show m8 8 k = 8 by unfold m8; split <;> omega, if_pos (show (8 : Int32) ≤ ni 8 by decide), if_neg k8]
          exact ⟨_, rfl, rfl, r6, KO.rf⟩
      rw [m1, bS]; dsimp only
      have e7t : gi A7 8 9 = ni (m8 8 (k + 1)) := by
        rw [m2]
        by_cases k8 : k < 8
        · rw [if_pos k8, si_eq, show m8 8 (k + 1) = k + 1 from if_pos (by omega)]
        · rw [if_neg k8, ct6.1.1, show m8 8 k = 8 by unfold m8; split <;> omega, show m8 8 (k + 1) = 8 by unfold m8; split <;> omega]
      have e7o : ∀ j, j ≠ 9 → gi A7 8 j = gi (emA A5 c 14 0) 8 j := by
        intro j hj
        rw [m2]
        by_cases k8 : k < 8
        · rw [if_pos k8, si_ff' hj, gi_ne (by omega), gi_sl]
        · rw [if_neg k8]
      obtain ⟨A8, B8, s1, s2, s3, s4, s5⟩ := lk_csum m3 (by omega) (by omega)
      rw [s1, s2, bS]; dsimp only
      have e8C : ∀ j, j ≠ 1 → j ≠ 6 → j ≠ 9 → gi A8 8 j = gi A 8 j := fun j j1 j2 j3 => by
        rw [s3.2.2.2.2 j j1 j2, e7o j j3, emA_f (by omega) (by omega)]; exact f05.2.2.2.2 j j1 j2
      have e8B : ∀ j, (11 < j ∧ j < 27) ∨ j = 33 ∨ j = 34 → gi B8 181 j = gi B 181 j := fun j hj => by
        rw [s4.2.2.2.1 j (by omega)]; exact g05.2.2.2.1 j (by omega)
      have e89 : gi A8 8 9 = ni (m8 8 (k + 1)) := by rw [s3.2.2.2.2 9 (by omega) (by omega)]; exact e7t
      have brk : ∀ {A' B' : Mem} {b : Nat}, Bk by_ n T own wd b A' B' → b ≤ 1200 → FrC A8 A' → FrB B8 B' → Br n T 0 A' B' := fun {A' B' b} g hb' fa fb => by
        obtain ⟨hs, h1, h2, h3, h4, h5, ⟨r', r1, r2⟩⟩ := g
        refine ⟨⟨hs.1, ⟨hs.2.2.2.2.2.1.2.1, hs.tn, hs.n9⟩, h1, h4, h5, ⟨_, @m8_le 8 (k + 1), ?_⟩, ⟨_, @m8_le 6 t, ?_⟩, ⟨y, ct.2.2.2.2.2, ?_⟩⟩, ⟨hs.2.1, h2, ⟨r', by omega, r2⟩, ⟨k, by omega, ?_⟩, ⟨t, by omega, ?_⟩, ⟨m, by omega, ?_⟩⟩, h3⟩
        · rw [fa.2.2.2.2 9 (by omega) (by omega)]; exact e89
        · rw [fa.2.2.2.2 12 (by omega) (by omega), e8C 12 (by omega) (by omega) (by omega)]; exact ct.2.1.1
        · rw [fa.2.2.2.2 16 (by omega) (by omega), e8C 16 (by omega) (by omega) (by omega)]; exact ct.2.2.2.2.1
        · rw [fb.2.2.2.1 15 (by omega), e8B 15 (by omega)]; exact ct.1.2
        · rw [fb.2.2.2.1 18 (by omega), e8B 18 (by omega)]; exact ct.2.1.2
        · rw [fb.2.2.2.1 21 (by omega), e8B 21 (by omega)]; exact ct.2.2.2.1
      have k05 : KO c r m y A B A5 B5 := ko_fr f05 g05 kb05
      have k07 : KO c r m y A B A7 B5 := (k05.trans (ko_fr emA_fr FrB.rf kb_emA) (Nat.le_refl _) (Nat.le_refl _) (Nat.le_refl m) (Nat.le_refl y)).trans m4 (by omega) (Nat.le_refl _) (Nat.le_refl _) (Nat.le_refl _)
      rcases s5 with s5 | ⟨i8, n8, o1, o2, o3, o4, o5⟩
      · have br := brk s5 (by omega) FrC.rf FrB.rf
        obtain ⟨A9, c1, c2⟩ := br.1.ru3 (j := ni c)
        obtain ⟨B9, w1, w2⟩ := br.2.1.cn3 (by omega) (v2 := nl nm) (v5 := gi B5 181 27)
        rw [c1, w1]
        exact ⟨A9, B9, rfl, rfl, (k07.1.trans s3.to2).trans c2.1, (k07.2.1.trans s4.to2).trans w2.1, Or.inl (br.go c2 ⟨w2.1, w2.2.1, w2.2.2.mono (by omega)⟩)⟩
      · have p98 := o1.p9
        unfold ruC3 SJ_X11_plainSum_57
        rw [emC_eq o1.2.2.2.2.2.2.2.1 (by omega), bS, emR_eq o1.2.2.2.2.2.2.2.2.1 (by omega), bS, bS]; dsimp only
        have r9 := r_emB (w := 11) (v := 0) (z := -1) (r_emA (o := 20) (a := 0) o1)
        rw [land_eq r9.2.2.2.2.2.2.2.1 (by omega) (by omega), bS]; dsimp only
        have r10 := rC_sl (a := 10) (j := c) (x := nl (c + 1 + n8 + 1)) r9 (by omega)
        obtain ⟨x, A11, B11, z1, z2, z3, z4, z5⟩ := lk_take r10 (by omega) (b := 59) (x := 59) rfl (by omega) (by omega)
        rw [z1, z2, bS, bS]; dsimp only
        have fa11 : FrC A8 A11 := (emA_fr.trans frC_10).trans z3
        have fb11 : FrB B8 B11 := emB_fr.trans z4
        have kbL : Kb c r (emA A8 (c + 1 + n8) 20 0) (emB B8 (r + n8) 11 0 (-1)) (sl (emA A8 (c + 1 + n8) 20 0) 10 c (nl (c + 1 + n8 + 1))) (emB B8 (r + n8) 11 0 (-1)) := by
          refine ⟨fun j hj => ⟨rfl, ?_⟩, fun _ _ => ⟨rfl, rfl, rfl⟩, fun _ e => e, fun e => e⟩
          rw [gl_sl, if_neg (by omega)]
        have k08 : KO c r m y A B A8 B8 := k07.trans (ko_fr s3 s4 o2) (by omega) (Nat.le_refl _) (Nat.le_refl m) (Nat.le_refl y)
        rcases z5 with z5 | ⟨z5, z6, z7, z8, z9⟩
        · have br := brk z5 (by omega) fa11 fb11
          obtain ⟨B12, w1, w2⟩ := br.2.1.cn4 (by omega) (v2 := nl nm) (v5 := gi B5 181 27)
          rw [w1]
          exact ⟨A11, B12, rfl, rfl, k08.1.trans fa11.to2, (k08.2.1.trans fb11.to2).trans w2.1, Or.inl (br.go br.1.rf ⟨w2.1, w2.2.1, w2.2.2.mono (by omega)⟩)⟩
        · have p11 := z8.p9
          have kb1011 : ∀ {c' r'}, Kb c' r' (sl (emA A8 (c + 1 + n8) 20 0) 10 c (nl (c + 1 + n8 + 1))) (emB B8 (r + n8) 11 0 (-1)) A11 B11 := by intro c' r'; rw [z6]; exact kb_adv z7
          have kb811 : Kb c r A8 B8 A11 B11 := ((kb_em (c := c + 1 + n8) (r := r + n8)).tr' kbL (by omega) (by omega)).trans kb1011 (Nat.le_refl _) (Nat.le_refl _)
          have k11 : KO c r m y A B A11 B11 := k08.trans (ko_fr fa11 fb11 kb811) (Nat.le_refl _) (Nat.le_refl _) (Nat.le_refl m) (Nat.le_refl y)
          have e15 : gi B11 181 15 = ni k := by rw [fb11.2.2.2.1 15 (by omega), e8B 15 (by omega)]; exact ct.1.2
          rw [cnR4_eq e15 (by omega), l8.2.2.2.2.2.2.2.2.1]
          obtain ⟨B12, hB12, r12, k12, x12⟩ : ∃ B12, B12 = (if k < 8 then si (sl B11 184 k (nl nm)) 185 k (ni r) else B11) ∧ R by_ n T own wd (i8 + 1) (c + 1 + n8 + 1) (r + n8 + 1) A11 B12 ∧ KO (c + 1 + n8 + 1) (r + n8 + 1) m y A11 B11 A11 B12 ∧ (∀ j, gi B12 181 j = gi B11 181 j) := by
            by_cases k8 : k < 8
            · rw [if_pos k8]
              exact ⟨_, rfl, rB_si (rB_sl z8 (by omega)) (by omega), (koB_sl (by omega)).trans (koB_si (by omega)) (Nat.le_refl _) (Nat.le_refl _) (Nat.le_refl _) (Nat.le_refl _), fun j => by rw [gi_ne (by omega), gi_sl]⟩
            · rw [if_neg k8]; exact ⟨_, rfl, z8, KO.rf, fun j => rfl⟩
          rw [← hB12]
          have r13 := rB_si (a := 181) (j := 15) (x := ni (k + 1)) r12 (by omega)
          have k13 : KO (c + 1 + n8 + 1) (r + n8 + 1) m y A11 B11 A11 (si B12 181 15 (ni (k + 1))) := k12.trans (koB_si (by omega)) (Nat.le_refl _) (Nat.le_refl _) (Nat.le_refl _) (Nat.le_refl _)
          have kf := k11.trans k13 (by omega) (by omega) (Nat.le_refl _) (Nat.le_refl _)
          have fld : ∀ j, j ≠ 15 → gi (si B12 181 15 (ni (k + 1))) 181 j = gi B11 181 j := fun j hj => by rw [si_ff' hj]; exact x12 j
          have rws : ∀ a, a ≠ 181 → gi (si B12 181 15 (ni (k + 1))) a = gi B12 a := fun a ha => gi_ne ha
          have e13 : gi (si B12 181 15 (ni (k + 1))) 181 15 = ni (k + 1) := si_eq
          have l13 : gl (si B12 181 15 (ni (k + 1))) = gl B12 := rfl
          generalize si B12 181 15 (ni (k + 1)) = B13 at *
          have e11C : ∀ j, j ≠ 1 → j ≠ 6 → j ≠ 9 → gi A11 8 j = gi A 8 j := fun j j1 j2 j3 => by rw [fa11.2.2.2.2 j j1 j2]; exact e8C j j1 j2 j3
          have e11B : ∀ j, (11 < j ∧ j < 27) ∨ j = 33 ∨ j = 34 → gi B11 181 j = gi B 181 j := fun j hj => by rw [fb11.2.2.2.1 j (by omega)]; exact e8B j hj
          have rowsA : ∀ j, c < j → j < c + 1 + n8 + 1 → gi A11 9 j = gi (emA A8 (c + 1 + n8) 20 0) 9 j ∧ gl A11 10 j = gl (emA A8 (c + 1 + n8) 20 0) 10 j := fun j j1 j2 => by
            have q := (kb1011 (c' := c + 1 + n8 + 1) (r' := 0)).1 j j2
            rw [q.1, q.2, gi_sl, gl_sl, if_neg (by omega)]; exact ⟨rfl, rfl⟩
          have rowsB : ∀ j, j < r + n8 + 1 → gi B13 191 j = gi (emB B8 (r + n8) 11 0 (-1)) 191 j ∧ gl B13 192 j = gl (emB B8 (r + n8) 11 0 (-1)) 192 j ∧ gi B13 193 j = gi (emB B8 (r + n8) 11 0 (-1)) 193 j := fun j hj => by
            have q0 := k13.2.2.2.1.2.1 j hj
            have q := (kb1011 (c' := 0) (r' := r + n8 + 1)).2.1 j hj
            rw [q0.1, q0.2.1, q0.2.2, q.1, q.2.1, q.2.2]; exact ⟨rfl, rfl, rfl⟩
          have ldm : ∀ Y, bt (gi A8 8 1) Y = true → bt (gi A11 8 1) Y = true := kb811.2.2.1
          have ef : EF (true, 0) own (c + 1) r n8 3 A11 B13 := o4.cg (fun j j1 j2 => by
              have q := rowsA j (by omega) (by omega)
              rw [q.1, q.2, emA_9, if_neg (by omega), emA_10, if_neg (by omega)]; exact ⟨rfl, rfl⟩) (fun j j1 j2 => by
              have q := rowsB j (by omega)
              rw [q.1, q.2.1, q.2.2, emB_1, if_neg (by omega), emB_2, if_neg (by omega), emB_3, if_neg (by omega)]; exact ⟨rfl, rfl, rfl⟩) ldm kb811.2.2.2
          have row20 : gi A11 9 (c + 1 + n8) = 20 := by rw [(rowsA (c + 1 + n8) (by omega) (by omega)).1, emA_9, if_pos rfl]
          have row11 : gi B13 191 (r + n8) = 11 := by rw [(rowsB (r + n8) (by omega)).1, emB_1, if_pos rfl]
          have row14 : gi A11 9 c = 14 ∧ gl A11 10 c = nl (c + 1 + n8 + 1) := by
            have q := (kb1011 (c' := c + 1) (r' := 0)).1 c (by omega)
            rw [q.1, q.2, gi_sl, gl_sl, if_pos ⟨rfl, rfl⟩, emA_9, if_neg (by omega), (o2.1 c (by omega)).1, (m4.2.2.2.1.1 c (by omega)).1, emA_9, if_pos rfl]
            exact ⟨rfl, rfl⟩
          refine ⟨_, _, rfl, rfl, kf.1, kf.2.1, Or.inr ⟨i8 + 1, c + 1 + n8 + 1, r + n8 + 1, k + 1, ⟨r13, ⟨?_, ?_, ?_⟩, ⟨⟨?_, e13⟩, ⟨?_, ?_⟩, ⟨?_, ?_⟩, ?_, ?_, ct.2.2.2.2.2⟩, ⟨by omega, by omega, by omega, by omega, by omega, by omega⟩, ?_, ?_⟩, ⟨by omega, by omega, by omega⟩, kf, ?_⟩⟩
          · rw [fa11.2.2.2.1 4 (by omega) (by omega) (by omega) (by omega), s3.2.2.2.1 4 (by omega) (by omega) (by omega) (by omega)]
            have e74 : gi A7 7 4 = gi A5 7 4 := by
              rw [m2]; by_cases k8 : k < 8
              · rw [if_pos k8, gi_ne (by omega), gi_ne (by omega), gi_sl, emA_f (by omega) (by omega)]
              · rw [if_neg k8, emA_f (by omega) (by omega)]
            rw [e74, f05.2.2.2.1 4 (by omega) (by omega) (by omega) (by omega)]; exact cx.1
          · rw [fld 33 (by omega), e11B 33 (by omega)]; exact cx.2.1
          · rw [fld 34 (by omega), e11B 34 (by omega)]; exact cx.2.2
          · rw [fa11.2.2.2.2 9 (by omega) (by omega)]; exact e89
          · rw [e11C 12 (by omega) (by omega) (by omega)]; exact ct.2.1.1
          · rw [fld 18 (by omega), e11B 18 (by omega)]; exact ct.2.1.2
          · rw [e11C 2 (by omega) (by omega) (by omega)]; exact ct.2.2.1.1
          · rw [fld 22 (by omega), e11B 22 (by omega)]; exact ct.2.2.1.2
          · rw [fld 21 (by omega), e11B 21 (by omega)]; exact ct.2.2.2.1
          · rw [e11C 16 (by omega) (by omega) (by omega)]; exact ct.2.2.2.2.1
          · unfold Rl
            rw [e11C 3 (by omega) (by omega) (by omega), fld 26 (by omega), e11B 26 (by omega)]; exact rl
          · intro e0
            have kb511 : Kb c r A5 B5 A11 B13 := (((kb_emA.trans m4.2.2.2.1 (by omega) (Nat.le_refl _)).trans o2 (by omega) (Nat.le_refl _)).trans kb811 (Nat.le_refl _) (Nat.le_refl _)).trans k13.2.2.2.1 (by omega) (by omega)
            have e5 : gi A5 7 6 = 0 := Classical.byContradiction fun z => kb511.2.2.2 z e0
            have k8 : k < 8 := by
              rcases f7 with q | q
              · exact q
              · exact absurd e5 (kb15.2.2.2 q)
            obtain ⟨⟨h1, h2⟩, ⟨h3, h4⟩, h5, h6, h7⟩ := cn5 e5
            rw [if_pos k8] at m2 hB12
            have cA : gl A11 11 = gl A7 11 ∧ gi A11 12 = gi A7 12 ∧ gl A11 13 = gl A7 13 ∧ gi A11 14 = gi A7 14 := by
              refine ⟨?_, ?_, ?_, ?_⟩
              · rw [fa11.2.2.1 11 (by omega), s3.2.2.1 11 (by omega)]
              · rw [fa11.2.1 12 (by omega) (by omega) (by omega), s3.2.1 12 (by omega) (by omega) (by omega)]
              · rw [fa11.2.2.1 13 (by omega), s3.2.2.1 13 (by omega)]
              · rw [fa11.2.1 14 (by omega) (by omega) (by omega), s3.2.1 14 (by omega) (by omega) (by omega)]
            have cB : gl B11 184 = gl B5 184 ∧ gi B11 185 = gi B5 185 ∧ gl B11 186 = gl B5 186 ∧ gi B11 187 = gi B5 187 := by
              refine ⟨?_, ?_, ?_, ?_⟩
              · rw [fb11.2.2.1 184 (by omega) (by omega), s4.2.2.1 184 (by omega) (by omega)]
              · rw [fb11.2.1 185 (by omega) (by omega) (by omega), s4.2.1 185 (by omega) (by omega) (by omega)]
              · rw [fb11.2.2.1 186 (by omega) (by omega), s4.2.2.1 186 (by omega) (by omega)]
              · rw [fb11.2.1 187 (by omega) (by omega) (by omega), s4.2.1 187 (by omega) (by omega) (by omega)]
            refine ⟨⟨by omega, fun j hj => ?_⟩, ⟨h3, fun j hj => ?_⟩, h5, h6, ?_⟩
            · rw [cA.1, cA.2.1, l13, rws 185 (by omega), hB12, m2]
              have u1 : gl (si (si (sl (emA A5 c 14 0) 11 k (nl nm)) 12 k (ni (c + 1))) 8 9 (ni (k + 1))) 11 j = if j = k then nl nm else gl A5 11 j := by
                rw [gl_si, gl_si, gl_sl]; by_cases e : j = k
                · rw [if_pos ⟨rfl, e⟩, if_pos e]
                · rw [if_neg (fun z => e z.2), if_neg e, emA_fr.2.2.1 11 (by omega)]
              have u2 : gi (si (si (sl (emA A5 c 14 0) 11 k (nl nm)) 12 k (ni (c + 1))) 8 9 (ni (k + 1))) 12 j = if j = k then ni (c + 1) else gi A5 12 j := by
                rw [gi_ne (by omega), gi_si]; by_cases e : j = k
                · rw [if_pos ⟨rfl, e⟩, if_pos e]
                · rw [if_neg (fun z => e z.2), if_neg e, gi_sl, emA_fr.2.1 12 (by omega) (by omega) (by omega)]
              have u3 : gl (si (sl B11 184 k (nl nm)) 185 k (ni r)) 184 j = if j = k then nl nm else gl B5 184 j := by
                rw [gl_si, gl_sl]; by_cases e : j = k
                · rw [if_pos ⟨rfl, e⟩, if_pos e]
                · rw [if_neg (fun z => e z.2), if_neg e, cB.1]
              have u4 : gi (si (sl B11 184 k (nl nm)) 185 k (ni r)) 185 j = if j = k then ni r else gi B5 185 j := by
                rw [gi_si]; by_cases e : j = k
                · rw [if_pos ⟨rfl, e⟩, if_pos e]
                · rw [if_neg (fun z => e z.2), if_neg e, gi_sl, cB.2.1]
              rw [u1, u2, u3, u4]
              by_cases e : j = k
              · rw [if_pos e, if_pos e, if_pos e, if_pos e]
                exact ⟨rfl, c + 1, r, n8, rfl, rfl, ef, row20, row11, by omega, by omega⟩
              · rw [if_neg e, if_neg e, if_neg e, if_neg e]
                exact ⟨(h2 j (by omega)).1, (h2 j (by omega)).2.kb kb511 (by omega) (by omega)⟩
            · rw [cA.2.2.1, cA.2.2.2, l13, rws 187 (by omega), hB12, m2]
              rw [show gl (si (si (sl (emA A5 c 14 0) 11 k (nl nm)) 12 k (ni (c + 1))) 8 9 (ni (k + 1))) 13 = gl A5 13 by rw [gl_si', gl_si', gl_ne (by omega), emA_fr.2.2.1 13 (by omega)], show gi (si (si (sl (emA A5 c 14 0) 11 k (nl nm)) 12 k (ni (c + 1))) 8 9 (ni (k + 1))) 14 = gi A5 14 by rw [gi_ne (by omega), gi_ne (by omega), show gi (sl (emA A5 c 14 0) 11 k (nl nm)) 14 = gi (emA A5 c 14 0) 14 from rfl, emA_fr.2.1 14 (by omega) (by omega) (by omega)], show gl (si (sl B11 184 k (nl nm)) 185 k (ni r)) 186 = gl B11 186 from gl_ne (M := B11) (by omega), show gi (si (sl B11 184 k (nl nm)) 185 k (ni r)) 187 = gi B11 187 by rw [gi_ne (by omega)]; rfl, cB.2.2.1, cB.2.2.2]
              exact h4 j hj
            · have e8 : gi A11 8 3 = gi A5 8 3 := by rw [e11C 3 (by omega) (by omega) (by omega)]; exact (f05.2.2.2.2 3 (by omega) (by omega)).symm
              have e26 : gi B13 181 26 = gi B5 181 26 := by rw [fld 26 (by omega), e11B 26 (by omega)]; exact (g05.2.2.2.1 26 (by omega)).symm
              rw [e8, e26]
              rcases h7 with h7 | h7
              · exact Or.inl h7
              · exact Or.inr (h7.kb kb511 (by omega) (by omega))
          · intro o a w v z ld sk sa sw ts te es nt h1 h2 h3 h4 h5 h6
            have q1 := h1 c (by omega) (by omega)
            have K := t2_tr own ld o a w v z sk sa sw ts te es nt
            exact K.2.1 3 c (c + 1 + n8 + 1) (c + 1 + n8 + 1) m m y y (q1.1.trans row14.1) (q1.2.trans row14.2) (by omega) (K.1 3 (c + 1 + n8 + 1) m y)
end Co

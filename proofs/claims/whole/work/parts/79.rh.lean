-- needs: 74.sclsb 75.num 76.rel 77.cong 78.sim 79.qa 79.qb 79.ra 79.rb 79.rc 79.rd 79.re 79.rf 79.rg
-- ===== products, sums, choices =====
section Ch
variable {by_ : Nat → Nat} {n T own : Nat} {wd : Nat → Int64} {qq : Nat} {v b : Nat} {rC : Int32 → Mem → Option (Unit × Mem)} {rR : Mem → Option (Unit × Mem)}
theorem lk_operand (hr : Rec by_ n T own wd qq (v + 1) b rC rR) {A B : Mem} {i c r : Nat} (h : R by_ n T own wd i c r A B) (h31 : gi B 181 31 = ni v) (hcq : CxQ qq A) (hv : v ≤ 12) (hc : c ≤ pfN by_ n i + 60) (hr2 : r ≤ pfN by_ n i + 60) (hb : 1000 ≤ b) (hb2 : b < 1900) :
    LkP by_ n T own wd (false, qq) (1 + 3 * (12 - v)) (b + 2) i c r A B (S_X4_readOperand rC (ni v) A) (S_X11_signed rR B) := by
  have kl := kap_lt h
  rw [opC_eq]
  unfold S_X4_takeMinus S_X11_signed
  rw [kind_eq h, bS]; dsimp only
  by_cases k45 : kap by_ n T wd i = 45
  · obtain ⟨B1, s1, s2, s3, s4⟩ := takes_y h (b := 45) (x := 45) rfl (by omega) (by omega) k45
    have p9 := s2.p9
    rw [k45, if_pos (show ni 45 = (45 : Int32) from rfl), bS, s1, bS]; dsimp only
    obtain ⟨A2, B2, u1, u2, u3, u4, u5⟩ := lk_atom hr 1 s2 ((s3.2.2.1 31 (by omega)).trans h31) ((frC_7 (A := A) (j := 2) (x := gi A 7 2 + 1) (by omega)).cx hcq) hv (by omega) (by omega) hb hb2
    rw [u1, u2, bS]; dsimp only
    unfold SJ_X4_readOperand_101
    rw [if_neg (show ¬ (1 : Int32) = 0 by decide), if_neg (show ¬ (1 : Int32) = 0 by decide)]
    have fC := (frC_7 (A := A) (j := 2) (x := gi A 7 2 + 1) (by omega)).trans u3
    have fB := s3.fr.trans u4
    rcases u5 with u5 | ⟨i2, m, o1, o2, o3, o4, o5⟩
    · obtain ⟨x, A3, e1, e2, e3⟩ := u5.emC (o := 5) (a := 0)
      obtain ⟨B3, y1, y2, y3, _⟩ := e3.emR (by omega) (w := 8) (v := 0) (z := -1)
      rw [e1, y1, bS, bS]
      exact ⟨A3, B3, rfl, rfl, fC.trans e2, fB.trans y2, Or.inl y3⟩
    · have z9 := o1.p9
      obtain ⟨e1, e2, e3⟩ := lk_em (o := 5) (a := 0) (w := 8) (v := 0) (z := -1) o1 (by omega) (by omega)
      rw [e1, e2, bS, bS]
      refine ⟨_, _, rfl, rfl, fC.trans emA_fr, fB.trans emB_fr, Or.inr ⟨i2, m + 1, e3, ((kb_adv s3).trans o2 (Nat.le_refl _) (Nat.le_refl _)).trans kb_em (by omega) (by omega), by omega, ?_, ?_⟩⟩
      · refine ef_neg (o4.kb kb_em (Nat.le_refl _) (Nat.le_refl _)) ?_ ?_
        · rw [emA_9, if_pos rfl]
        · rw [emB_1, if_pos rfl]
      · rw [emB_f (by omega) (by omega), o5]; exact s3.2.2.1 31 (by omega)
  · rw [if_neg (ni_nn (b := 45) (x := 45) rfl (by omega) (by omega) k45), bS, takes_n h (b := 45) (x := 45) rfl (by omega) (by omega) k45, bS]; dsimp only
    obtain ⟨A2, B2, u1, u2, u3, u4, u5⟩ := lk_atom hr 0 h h31 hcq hv hc hr2 hb hb2
    rw [u1, u2, bS]; dsimp only
    unfold SJ_X4_readOperand_101
    rw [if_pos rfl, if_pos rfl]
    refine ⟨A2, B2, rfl, rfl, u3, u4, ?_⟩
    rcases u5 with u5 | u5
    · exact Or.inl (u5.mono (by omega))
    · exact Or.inr u5
def fct (k : Nat) : Int32 := if k = 37 then 10 else if k = 42 then 8 else if k = 47 then 9 else -1
theorem factor_eq {k : Nat} {M : Mem} (h : k < 1000) : L_X4_factor (ni k) M = some (fct k, M) := by
  unfold L_X4_factor fct
  have c : ∀ m, m < 256 → ((ni k = ni m) ↔ k = m) := fun m hm => ni_inj (by omega) (by omega)
  rw [show (37 : Int32) = ni 37 from rfl, show (42 : Int32) = ni 42 from rfl, show (47 : Int32) = ni 47 from rfl]
  simp only [c 37 (by omega), c 42 (by omega), c 47 (by omega)]
  split
  · rfl
  · split
    · rfl
    · split <;> rfl
/-- what a row of operands comes to -/
def OkL (by_ : Nat → Nat) (n T own : Nat) (wd : Nat → Int64) (k : Bool × Nat) (h i c r m : Nat) (A B A' B' : Mem) : Prop := ∃ i' m', R by_ n T own wd i' (c + m') (r + m') A' B' ∧ m ≤ m' ∧ Kb c r A B A' B' ∧ pfN by_ n i + m' ≤ pfN by_ n i' + m ∧ EF k own c r m' h A' B' ∧ gi B' 181 31 = gi B 181 31
theorem lk_prodlp (hr : Rec by_ n T own wd qq (v + 1) b rC rR) (hv : v ≤ 12) (hb : 1000 ≤ b) (hb2 : b < 1900) {c r : Nat} : ∀ {g τ F F' i m : Nat} {A B : Mem}, R by_ n T own wd i (c + m) (r + m) A B → gi B 181 31 = ni v → CxQ qq A → τ ≤ pfN by_ n i → n ≤ pfN by_ n i + g → g < F → g < F' → c + m ≤ pfN by_ n i + 60 → r + m ≤ pfN by_ n i + 60 → EF (false, qq) own c r m (2 + 3 * (12 - v)) A B →
    ∃ A' B', SJ_X4_readProduct_15 rC F (ni v) (fct (kap by_ n T wd i)) (ni τ) A = some ((), A') ∧ SJ_X11_product_4 rR F' B = some ((), B') ∧ FrC A A' ∧ FrB B B' ∧ (Bk by_ n T own wd (b + 3) A' B' ∨ OkL by_ n T own wd (false, qq) (2 + 3 * (12 - v)) i c r m A B A' B') := by
  intro g
  induction g with
  | zero =>
    intro τ F F' i m A B h h31 hcq hτ hg hF hF' hc hr2 hE
    obtain ⟨F, rfl⟩ : ∃ g, F = g + 1 := ⟨F - 1, by omega⟩
    obtain ⟨F', rfl⟩ : ∃ g, F' = g + 1 := ⟨F' - 1, by omega⟩
    have hk : kap by_ n T wd i = 0 := by
      rcases tok h with t | t | t | t | ⟨w, t⟩ | ⟨b', t⟩
      · exact t.1
      · have := (h.1.pf t.2.1).1; omega
      · have := (h.1.pf t.2.1).1; omega
      · have := (h.1.pf t.2.1).1; omega
      · have := (h.1.pf t.2.2.1).1; omega
      · have := (h.1.pf t.2.2.2.1).1; omega
    refine ⟨A, B, ?_, ?_, FrC.rf, FrB.rf, Or.inr ⟨i, m, h, Nat.le_refl _, Kb.rf, Nat.le_refl _, hE, rfl⟩⟩
    · rw [SJ_X4_readProduct_15, hk]; dsimp only
      rw [show fct 0 = -1 from rfl, if_pos rfl, ite_self]
    · rw [SJ_X11_product_4]; dsimp only
      rw [h.2.2.2.2.1, if_neg (by simp), isSign_n h (b := 42) (x := 42) rfl (by omega) (by omega) (by omega), bS]; dsimp only
      rw [if_neg (show ¬ ¬ (0 : Int32) = 0 by simp), isSign_n h (b := 47) (x := 47) rfl (by omega) (by omega) (by omega), bS]; dsimp only
      rw [if_neg (show ¬ ¬ (0 : Int32) = 0 by simp), isSign_n h (b := 37) (x := 37) rfl (by omega) (by omega) (by omega), bS]; dsimp only
      rw [if_pos rfl]
  | succ g ih =>
    intro τ F F' i m A B h h31 hcq hτ hg hF hF' hc hr2 hE
    obtain ⟨F, rfl⟩ : ∃ g, F = g + 1 := ⟨F - 1, by omega⟩
    obtain ⟨F', rfl⟩ : ∃ g, F' = g + 1 := ⟨F' - 1, by omega⟩
    have p9 := h.p9
    have kl := kap_lt h
    by_cases hk : kap by_ n T wd i = 42 ∨ kap by_ n T wd i = 47 ∨ kap by_ n T wd i = 37
    · obtain ⟨op, hop, hop1⟩ : ∃ op, fct (kap by_ n T wd i) = op ∧ ¬ op = -1 ∧ Bop false op (ni (kap by_ n T wd i)) := by
        rcases hk with k | k | k <;> rw [k]
        · exact ⟨8, rfl, by decide, Or.inr (Or.inr (Or.inl ⟨rfl, rfl⟩))⟩
        · exact ⟨9, rfl, by decide, Or.inr (Or.inr (Or.inr ⟨rfl, Or.inl ⟨rfl, rfl⟩⟩))⟩
        · exact ⟨10, rfl, by decide, Or.inr (Or.inr (Or.inr ⟨rfl, Or.inr (Or.inl ⟨rfl, rfl⟩)⟩))⟩
      obtain ⟨B1, a1, a2, a3, a4, a5, a6, a7, a8⟩ := adv' h (by omega)
      have hi := (h.1.pf (kap_T h (by omega))).1
      have n9 := h.1.n9
      have q9 := a2.p9
      obtain ⟨A2, B2, u1, u2, u3, u4, u5⟩ := lk_operand hr a2 (a7.trans h31) (a4.cx hcq) hv (by omega) (by omega) hb hb2
      have eC : SJ_X4_readProduct_15 rC (F + 1) (ni v) (fct (kap by_ n T wd i)) (ni τ) A = (S_X0_emit op 0 A2).bind fun w2 => (S_X4_kind w2.2).bind fun w3 => (L_X4_factor w3.1 w3.2).bind fun w4 => SJ_X4_readProduct_15 rC F (ni v) w4.1 (ni (τ + 1)) w4.2 := by
        rw [SJ_X4_readProduct_15, hop]; dsimp only
        rw [if_neg (show ¬ (900 : Int32) ≤ ni τ from fun e => by have := (ni_le (a := 900) (by omega) (by omega)).mp e; omega), if_neg hop1.1, u1, bS, show ni τ + 1 = ni (τ + 1) from ni_add τ 1]
      have eR : SJ_X11_product_4 rR (F' + 1) B = (S_X11_emit (ni (kap by_ n T wd i)) 0 (-1) B2).bind fun w3 => SJ_X11_product_4 rR F' w3.2 := by
        have e38 : SJ_X11_product_38 rR (SJ_X11_product_4 rR F') B = (S_X11_emit (ni (kap by_ n T wd i)) 0 (-1) B2).bind fun w3 => SJ_X11_product_4 rR F' w3.2 := by
          rw [show SJ_X11_product_38 rR (SJ_X11_product_4 rR F') B = _ from signByte h (by omega) (by omega) (f := fun x => (S_X11_advance B).bind fun w1 => (S_X11_signed rR w1.2).bind fun w2 => (S_X11_emit x 0 (-1) w2.2).bind fun w3 => SJ_X11_product_4 rR F' w3.2)]
          rw [a1, bS]; dsimp only
          rw [u2, bS]
        rw [SJ_X11_product_4]; dsimp only
        rw [h.2.2.2.2.1, if_neg (by simp), show (42 : Int32) = ni 42 from rfl, isSign_eq h (by omega) (by omega), bS]; dsimp only
        by_cases k42 : kap by_ n T wd i = 42
        · rw [if_pos k42, if_pos (by decide)]; exact e38
        · rw [if_neg k42, if_neg (by simp), show (47 : Int32) = ni 47 from rfl, isSign_eq h (by omega) (by omega), bS]; dsimp only
          by_cases k47 : kap by_ n T wd i = 47
          · rw [if_pos k47, if_pos (by decide)]; exact e38
          · rw [if_neg k47, if_neg (by simp), isSign_y h (b := 37) (x := 37) rfl (by omega) (by omega) (by omega), bS]; dsimp only
            rw [if_neg (show ¬ (1 : Int32) = 0 by decide)]; exact e38
      rw [eC, eR]
      rcases u5 with u5 | ⟨i2, m2, o1, o2, o3, o4, o5⟩
      · obtain ⟨x, A3, e1, e2, e3⟩ := u5.emC (o := op) (a := 0)
        obtain ⟨B3, y1, y2, y3, _⟩ := e3.emR (by omega) (w := ni (kap by_ n T wd i)) (v := 0) (z := -1)
        obtain ⟨F, rfl⟩ : ∃ g, F = g + 1 := ⟨F - 1, by omega⟩
        obtain ⟨F', rfl⟩ : ∃ g, F' = g + 1 := ⟨F' - 1, by omega⟩
        rw [e1, y1, bS, bS]; dsimp only
        rw [bk_kind y3.2.1, bS]; dsimp only
        rw [show L_X4_factor 4 A3 = some (-1, A3) from rfl, bS]; dsimp only
        rw [bk_prodlp y3.2.1, wr_prodlp y3.2.2.1]
        exact ⟨A3, B3, rfl, rfl, (a4.trans u3).trans e2, (a5.trans u4).trans y2, Or.inl y3⟩
      · have z9 := o1.p9
        obtain ⟨e1, e2, e3⟩ := lk_em (o := op) (a := 0) (w := ni (kap by_ n T wd i)) (v := 0) (z := -1) o1 (by omega) (by omega)
        rw [e1, e2, bS, bS]; dsimp only
        have e3' : R by_ n T own wd i2 (c + (m + m2 + 1)) (r + (m + m2 + 1)) (emA A2 (c + m + m2) op 0) (emB B2 (r + m + m2) (ni (kap by_ n T wd i)) 0 (-1)) := by
          rw [show c + (m + m2 + 1) = c + m + m2 + 1 by omega, show r + (m + m2 + 1) = r + m + m2 + 1 by omega]; exact e3
        have kl2 := kap_lt e3'
        rw [kind_eq e3', bS]; dsimp only
        rw [factor_eq (by omega), bS]; dsimp only
        have k1 : Kb (c + m) (r + m) A B A2 B2 := a6.trans o2 (Nat.le_refl _) (Nat.le_refl _)
        have E : EF (false, qq) own c r (m + m2 + 1) (2 + 3 * (12 - v)) (emA A2 (c + m + m2) op 0) (emB B2 (r + m + m2) (ni (kap by_ n T wd i)) 0 (-1)) := by
          refine ef_bin (g := 1 + 3 * (12 - v)) ((hE.kb k1 (Nat.le_refl _) (Nat.le_refl _)).kb kb_em (by omega) (by omega)) (o4.kb kb_em (Nat.le_refl _) (Nat.le_refl _)) (by omega) ?_
          rw [emA_9, if_pos rfl, emB_1, if_pos rfl]; exact hop1.2
        obtain ⟨A4, B4, x1, x2, x3, x4, x5⟩ := ih (τ := τ + 1) (F := F) (F' := F') e3' (by rw [emB_f (by omega) (by omega), o5, a7]; exact h31) (((a4.trans u3).trans emA_fr).cx hcq) (by omega) (by omega) (by omega) (by omega) (by omega) (by omega) E
        refine ⟨A4, B4, x1, x2, ((a4.trans u3).trans emA_fr).trans x3, ((a5.trans u4).trans emB_fr).trans x4, ?_⟩
        rcases x5 with x5 | ⟨i5, m5, z1, z2, z3, z4, z5, z6⟩
        · exact Or.inl x5
        · refine Or.inr ⟨i5, m5, z1, by omega, ?_, by omega, z5, ?_⟩
          · exact Kb.tr' (k1.trans kb_em (by omega) (by omega)) z3 (by omega) (by omega)
          · rw [z6, emB_f (by omega) (by omega), o5, a7]
    · have hf : fct (kap by_ n T wd i) = -1 := by unfold fct; rw [if_neg (by omega), if_neg (by omega), if_neg (by omega)]
      refine ⟨A, B, ?_, ?_, FrC.rf, FrB.rf, Or.inr ⟨i, m, h, Nat.le_refl _, Kb.rf, Nat.le_refl _, hE, rfl⟩⟩
      · rw [SJ_X4_readProduct_15, hf]; dsimp only
        rw [if_pos rfl, ite_self]
      · rw [SJ_X11_product_4]; dsimp only
        rw [h.2.2.2.2.1, if_neg (by simp), isSign_n h (b := 42) (x := 42) rfl (by omega) (by omega) (by omega), bS]; dsimp only
        rw [if_neg (show ¬ ¬ (0 : Int32) = 0 by simp), isSign_n h (b := 47) (x := 47) rfl (by omega) (by omega) (by omega), bS]; dsimp only
        rw [if_neg (show ¬ ¬ (0 : Int32) = 0 by simp), isSign_n h (b := 37) (x := 37) rfl (by omega) (by omega) (by omega), bS]; dsimp only
        rw [if_pos rfl]
theorem lk_product (hr : Rec by_ n T own wd qq (v + 1) b rC rR) {A B : Mem} {i c r : Nat} (h : R by_ n T own wd i c r A B) (h31 : gi B 181 31 = ni v) (hcq : CxQ qq A) (hv : v ≤ 12) (hc : c ≤ pfN by_ n i + 60) (hr2 : r ≤ pfN by_ n i + 60) (hb : 1000 ≤ b) (hb2 : b < 1900) :
    LkP by_ n T own wd (false, qq) (2 + 3 * (12 - v)) (b + 3) i c r A B (S_X4_readProduct rC (ni v) A) (S_X11_product rR B) := by
  obtain ⟨A1, B1, u1, u2, u3, u4, u5⟩ := lk_operand hr h h31 hcq hv hc hr2 hb hb2
  have n9 := h.1.n9
  unfold S_X4_readProduct S_X11_product
  rw [u1, u2, bS, bS]; dsimp only
  rcases u5 with u5 | ⟨i1, m, o1, o2, o3, o4, o5⟩
  · rw [bk_kind u5.2.1, bS]; dsimp only
    rw [show L_X4_factor 4 A1 = some (-1, A1) from rfl, bS]; dsimp only
    rw [show FU = 3999999 + 1 from rfl, bk_prodlp u5.2.1, wr_prodlp u5.2.2.1]
    exact ⟨A1, B1, rfl, rfl, u3, u4, Or.inl (u5.mono (by omega))⟩
  · have kl := kap_lt o1
    rw [kind_eq o1, bS]; dsimp only
    rw [factor_eq (by omega), bS]; dsimp only
    obtain ⟨A2, B2, x1, x2, x3, x4, x5⟩ := lk_prodlp hr hv hb hb2 (g := 1000) (τ := 0) (F := FU) (F' := FU) o1 (o5.trans h31) (u3.cx hcq) (by omega) (by omega) (by decide) (by decide) (by omega) (by omega) (o4.mono (by omega))
    refine ⟨A2, B2, x1, x2, u3.trans x3, u4.trans x4, ?_⟩
    rcases x5 with x5 | ⟨i5, m5, z1, z2, z3, z4, z5, z6⟩
    · exact Or.inl x5
    · exact Or.inr ⟨i5, m5, z1, o2.trans z3 (Nat.le_refl _) (Nat.le_refl _), by omega, z5, z6.trans o5⟩
theorem lk_sumlp (hr : Rec by_ n T own wd qq (v + 1) b rC rR) (hv : v ≤ 12) (hb : 1000 ≤ b) (hb2 : b < 1900) {c r : Nat} : ∀ {g τ F F' i m : Nat} {A B : Mem}, R by_ n T own wd i (c + m) (r + m) A B → gi B 181 31 = ni v → CxQ qq A → τ ≤ pfN by_ n i → n ≤ pfN by_ n i + g → g < F → g < F' → c + m ≤ pfN by_ n i + 60 → r + m ≤ pfN by_ n i + 60 → EF (false, qq) own c r m (3 + 3 * (12 - v)) A B →
    ∃ A' B', SJ_X4_readSum_7 rC F (ni v) (ni τ) A = some ((), A') ∧ SJ_X11_sum_4 rR F' B = some ((), B') ∧ FrC A A' ∧ FrB B B' ∧ (Bk by_ n T own wd (b + 4) A' B' ∨ OkL by_ n T own wd (false, qq) (3 + 3 * (12 - v)) i c r m A B A' B') := by
  intro g
  induction g with
  | zero =>
    intro τ F F' i m A B h h31 hcq hτ hg hF hF' hc hr2 hE
    obtain ⟨F, rfl⟩ : ∃ g, F = g + 1 := ⟨F - 1, by omega⟩
    obtain ⟨F', rfl⟩ : ∃ g, F' = g + 1 := ⟨F' - 1, by omega⟩
    have hk : kap by_ n T wd i = 0 := by
      rcases tok h with t | t | t | t | ⟨w, t⟩ | ⟨b', t⟩
      · exact t.1
      · have := (h.1.pf t.2.1).1; omega
      · have := (h.1.pf t.2.1).1; omega
      · have := (h.1.pf t.2.1).1; omega
      · have := (h.1.pf t.2.2.1).1; omega
      · have := (h.1.pf t.2.2.2.1).1; omega
    refine ⟨A, B, ?_, ?_, FrC.rf, FrB.rf, Or.inr ⟨i, m, h, Nat.le_refl _, Kb.rf, Nat.le_refl _, hE, rfl⟩⟩
    · rw [SJ_X4_readSum_7]; dsimp only
      rw [kind_eq h, bS]; dsimp only
      rw [hk, if_neg (show ¬ ni 0 = 43 by decide), kind_eq h, bS]; dsimp only
      rw [hk, if_pos (show ¬ ni 0 = 45 by decide), ite_self]
    · rw [SJ_X11_sum_4]; dsimp only
      rw [h.2.2.2.2.1, if_neg (by simp), isSign_n h (b := 43) (x := 43) rfl (by omega) (by omega) (by omega), bS]; dsimp only
      rw [if_neg (show ¬ ¬ (0 : Int32) = 0 by simp), isSign_n h (b := 45) (x := 45) rfl (by omega) (by omega) (by omega), bS]; dsimp only
      rw [if_pos rfl]
  | succ g ih =>
    intro τ F F' i m A B h h31 hcq hτ hg hF hF' hc hr2 hE
    obtain ⟨F, rfl⟩ : ∃ g, F = g + 1 := ⟨F - 1, by omega⟩
    obtain ⟨F', rfl⟩ : ∃ g, F' = g + 1 := ⟨F' - 1, by omega⟩
    have p9 := h.p9
    have kl := kap_lt h
    by_cases hk : kap by_ n T wd i = 43 ∨ kap by_ n T wd i = 45
    · obtain ⟨B1, a1, a2, a3, a4, a5, a6, a7, a8⟩ := adv' h (by omega)
      have hi := (h.1.pf (kap_T h (by omega))).1
      have n9 := h.1.n9
      have q9 := a2.p9
      obtain ⟨A2, B2, u1, u2, u3, u4, u5⟩ := lk_product hr a2 (a7.trans h31) (a4.cx hcq) hv (by omega) (by omega) hb hb2
      obtain ⟨op, hop1, eC⟩ : ∃ op, Bop false op (ni (kap by_ n T wd i)) ∧ SJ_X4_readSum_7 rC (F + 1) (ni v) (ni τ) A = (S_X0_emit op 0 A2).bind fun w2 => SJ_X4_readSum_7 rC F (ni v) (ni (τ + 1)) w2.2 := by
        have go : ∀ op, SJ_X4_readSum_48 rC (SJ_X4_readSum_7 rC F) (ni v) (ni τ) op A = (S_X0_emit op 0 A2).bind fun w2 => SJ_X4_readSum_7 rC F (ni v) (ni (τ + 1)) w2.2 := by
          intro op
          unfold SJ_X4_readSum_48
          rw [u1, bS, show ni τ + 1 = ni (τ + 1) from ni_add τ 1]
        rcases hk with k | k
        · refine ⟨6, by rw [k]; exact Or.inl ⟨rfl, rfl⟩, ?_⟩
          rw [← go 6, SJ_X4_readSum_7]; dsimp only
          rw [if_neg (show ¬ (900 : Int32) ≤ ni τ from fun e => by have := (ni_le (a := 900) (by omega) (by omega)).mp e; omega), kind_eq h, bS]; dsimp only
          rw [k, if_pos (show ni 43 = (43 : Int32) from rfl)]
          unfold SJ_X4_readSum_32
          rw [kind_eq h, bS]; dsimp only
          rw [k, if_neg (show ¬ ¬ ni 43 = (43 : Int32) by simp; rfl)]
        · refine ⟨7, by rw [k]; exact Or.inr (Or.inl ⟨rfl, rfl⟩), ?_⟩
          rw [← go 7, SJ_X4_readSum_7]; dsimp only
          rw [if_neg (show ¬ (900 : Int32) ≤ ni τ from fun e => by have := (ni_le (a := 900) (by omega) (by omega)).mp e; omega), kind_eq h, bS]; dsimp only
          rw [k, if_neg (show ¬ ni 45 = (43 : Int32) by decide), kind_eq h, bS]; dsimp only
          rw [k, if_neg (show ¬ ¬ ni 45 = (45 : Int32) by simp; rfl)]
          unfold SJ_X4_readSum_32
          rw [kind_eq h, bS]; dsimp only
          rw [k, if_pos (show ¬ ni 45 = (43 : Int32) by decide)]
      have eR : SJ_X11_sum_4 rR (F' + 1) B = (S_X11_emit (ni (kap by_ n T wd i)) 0 (-1) B2).bind fun w3 => SJ_X11_sum_4 rR F' w3.2 := by
        have e38 : SJ_X11_sum_29 rR (SJ_X11_sum_4 rR F') B = (S_X11_emit (ni (kap by_ n T wd i)) 0 (-1) B2).bind fun w3 => SJ_X11_sum_4 rR F' w3.2 := by
          rw [show SJ_X11_sum_29 rR (SJ_X11_sum_4 rR F') B = _ from signByte h (by omega) (by omega) (f := fun x => (S_X11_advance B).bind fun w1 => (S_X11_product rR w1.2).bind fun w2 => (S_X11_emit x 0 (-1) w2.2).bind fun w3 => SJ_X11_sum_4 rR F' w3.2)]
          rw [a1, bS]; dsimp only
          rw [u2, bS]
        rw [SJ_X11_sum_4]; dsimp only
        rw [h.2.2.2.2.1, if_neg (by simp), show (43 : Int32) = ni 43 from rfl, isSign_eq h (by omega) (by omega), bS]; dsimp only
        by_cases k42 : kap by_ n T wd i = 43
        · rw [if_pos k42, if_pos (by decide)]; exact e38
        · rw [if_neg k42, if_neg (by simp), isSign_y h (b := 45) (x := 45) rfl (by omega) (by omega) (by omega), bS]; dsimp only
          rw [if_neg (show ¬ (1 : Int32) = 0 by decide)]; exact e38
      rw [eC, eR]
      rcases u5 with u5 | ⟨i2, m2, o1, o2, o3, o4, o5⟩
      · obtain ⟨x, A3, e1, e2, e3⟩ := u5.emC (o := op) (a := 0)
        obtain ⟨B3, y1, y2, y3, _⟩ := e3.emR (by omega) (w := ni (kap by_ n T wd i)) (v := 0) (z := -1)
        obtain ⟨F, rfl⟩ : ∃ g, F = g + 1 := ⟨F - 1, by omega⟩
        obtain ⟨F', rfl⟩ : ∃ g, F' = g + 1 := ⟨F' - 1, by omega⟩
        rw [e1, y1, bS, bS]; dsimp only
        rw [bk_sumlp y3.2.1, wr_sumlp y3.2.2.1]
        exact ⟨A3, B3, rfl, rfl, (a4.trans u3).trans e2, (a5.trans u4).trans y2, Or.inl y3⟩
      · have z9 := o1.p9
        obtain ⟨e1, e2, e3⟩ := lk_em (o := op) (a := 0) (w := ni (kap by_ n T wd i)) (v := 0) (z := -1) o1 (by omega) (by omega)
        rw [e1, e2, bS, bS]; dsimp only
        have e3' : R by_ n T own wd i2 (c + (m + m2 + 1)) (r + (m + m2 + 1)) (emA A2 (c + m + m2) op 0) (emB B2 (r + m + m2) (ni (kap by_ n T wd i)) 0 (-1)) := by
          rw [show c + (m + m2 + 1) = c + m + m2 + 1 by omega, show r + (m + m2 + 1) = r + m + m2 + 1 by omega]; exact e3
        have k1 : Kb (c + m) (r + m) A B A2 B2 := a6.trans o2 (Nat.le_refl _) (Nat.le_refl _)
        have E : EF (false, qq) own c r (m + m2 + 1) (3 + 3 * (12 - v)) (emA A2 (c + m + m2) op 0) (emB B2 (r + m + m2) (ni (kap by_ n T wd i)) 0 (-1)) := by
          refine ef_bin (g := 2 + 3 * (12 - v)) ((hE.kb k1 (Nat.le_refl _) (Nat.le_refl _)).kb kb_em (by omega) (by omega)) (o4.kb kb_em (Nat.le_refl _) (Nat.le_refl _)) (by omega) ?_
          rw [emA_9, if_pos rfl, emB_1, if_pos rfl]; exact hop1
        obtain ⟨A4, B4, x1, x2, x3, x4, x5⟩ := ih (τ := τ + 1) (F := F) (F' := F') e3' (by rw [emB_f (by omega) (by omega), o5, a7]; exact h31) (((a4.trans u3).trans emA_fr).cx hcq) (by omega) (by omega) (by omega) (by omega) (by omega) (by omega) E
        refine ⟨A4, B4, x1, x2, ((a4.trans u3).trans emA_fr).trans x3, ((a5.trans u4).trans emB_fr).trans x4, ?_⟩
        rcases x5 with x5 | ⟨i5, m5, z1, z2, z3, z4, z5, z6⟩
        · exact Or.inl x5
        · refine Or.inr ⟨i5, m5, z1, by omega, ?_, by omega, z5, ?_⟩
          · exact Kb.tr' (k1.trans kb_em (by omega) (by omega)) z3 (by omega) (by omega)
          · rw [z6, emB_f (by omega) (by omega), o5, a7]
    · refine ⟨A, B, ?_, ?_, FrC.rf, FrB.rf, Or.inr ⟨i, m, h, Nat.le_refl _, Kb.rf, Nat.le_refl _, hE, rfl⟩⟩
      · rw [SJ_X4_readSum_7]; dsimp only
        rw [kind_eq h, bS]; dsimp only
        rw [if_neg (ni_nn (b := 43) (x := 43) rfl (by omega) (by omega) (by omega)), kind_eq h, bS]; dsimp only
        rw [if_pos (ni_nn (b := 45) (x := 45) rfl (by omega) (by omega) (by omega)), ite_self]
      · rw [SJ_X11_sum_4]; dsimp only
        rw [h.2.2.2.2.1, if_neg (by simp), isSign_n h (b := 43) (x := 43) rfl (by omega) (by omega) (by omega), bS]; dsimp only
        rw [if_neg (show ¬ ¬ (0 : Int32) = 0 by simp), isSign_n h (b := 45) (x := 45) rfl (by omega) (by omega) (by omega), bS]; dsimp only
        rw [if_pos rfl]
theorem lk_sum (hr : Rec by_ n T own wd qq (v + 1) b rC rR) {A B : Mem} {i c r : Nat} (h : R by_ n T own wd i c r A B) (h31 : gi B 181 31 = ni v) (hcq : CxQ qq A) (hv : v ≤ 12) (hc : c ≤ pfN by_ n i + 60) (hr2 : r ≤ pfN by_ n i + 60) (hb : 1000 ≤ b) (hb2 : b < 1900) :
    LkP by_ n T own wd (false, qq) (3 + 3 * (12 - v)) (b + 4) i c r A B (S_X4_readSum rC (ni v) A) (S_X11_sum rR B) := by
  obtain ⟨A1, B1, u1, u2, u3, u4, u5⟩ := lk_product hr h h31 hcq hv hc hr2 hb hb2
  have n9 := h.1.n9
  unfold S_X4_readSum S_X11_sum
  rw [u1, u2, bS, bS]; dsimp only
  rcases u5 with u5 | ⟨i1, m, o1, o2, o3, o4, o5⟩
  · rw [show FU = 3999999 + 1 from rfl, bk_sumlp u5.2.1, wr_sumlp u5.2.2.1]
    exact ⟨A1, B1, rfl, rfl, u3, u4, Or.inl (u5.mono (by omega))⟩
  · obtain ⟨A2, B2, x1, x2, x3, x4, x5⟩ := lk_sumlp hr hv hb hb2 (g := 1000) (τ := 0) (F := FU) (F' := FU) o1 (o5.trans h31) (u3.cx hcq) (by omega) (by omega) (by decide) (by decide) (by omega) (by omega) (o4.mono (by omega))
    refine ⟨A2, B2, x1, x2, u3.trans x3, u4.trans x4, ?_⟩
    rcases x5 with x5 | ⟨i5, m5, z1, z2, z3, z4, z5, z6⟩
    · exact Or.inl x5
    · exact Or.inr ⟨i5, m5, z1, o2.trans z3 (Nat.le_refl _) (Nat.le_refl _), by omega, z5, z6.trans o5⟩
end Ch

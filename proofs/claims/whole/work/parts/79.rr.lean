-- ===== steps in one another =====
theorem Br.mono {n T e f : Nat} {A B : Mem} (h : Br n T e A B) (hf : e ≤ f) : Br n T f A B := ⟨h.1, h.2.1.mono hf, h.2.2⟩
/-- what stands outside of the code is the same -/
def QA (A A' : Mem) : Prop := (∀ j, j = 2 ∨ j = 3 ∨ j = 9 ∨ j = 12 → gi A' 8 j = gi A 8 j) ∧ gi A' 7 4 = gi A 7 4 ∧ gl A' 11 = gl A 11 ∧ gi A' 12 = gi A 12 ∧ gl A' 13 = gl A 13 ∧ gi A' 14 = gi A 14
def QB (B B' : Mem) : Prop := (∀ j, j = 15 ∨ j = 18 ∨ j = 22 ∨ j = 26 ∨ j = 33 ∨ j = 34 → gi B' 181 j = gi B 181 j) ∧ gl B' 184 = gl B 184 ∧ gi B' 185 = gi B 185 ∧ gl B' 186 = gl B 186 ∧ gi B' 187 = gi B 187
theorem QA.trans {A B C : Mem} (h : QA A B) (g : QA B C) : QA A C := ⟨fun j hj => (g.1 j hj).trans (h.1 j hj), g.2.1.trans h.2.1, g.2.2.1.trans h.2.2.1, g.2.2.2.1.trans h.2.2.2.1, g.2.2.2.2.1.trans h.2.2.2.2.1, g.2.2.2.2.2.trans h.2.2.2.2.2⟩
theorem QB.trans {A B C : Mem} (h : QB A B) (g : QB B C) : QB A C := ⟨fun j hj => (g.1 j hj).trans (h.1 j hj), g.2.1.trans h.2.1, g.2.2.1.trans h.2.2.1, g.2.2.2.1.trans h.2.2.2.1, g.2.2.2.2.trans h.2.2.2.2⟩
theorem QA.rf {A : Mem} : QA A A := ⟨fun _ _ => rfl, rfl, rfl, rfl, rfl, rfl⟩
theorem QB.rf {A : Mem} : QB A A := ⟨fun _ _ => rfl, rfl, rfl, rfl, rfl⟩
theorem FrC.qa {A A' : Mem} (f : FrC A A') : QA A A' := ⟨fun j hj => f.2.2.2.2 j (by omega) (by omega), f.2.2.2.1 4 (by omega) (by omega) (by omega) (by omega), f.2.2.1 11 (by omega), f.2.1 12 (by omega) (by omega) (by omega), f.2.2.1 13 (by omega), f.2.1 14 (by omega) (by omega) (by omega)⟩
theorem FrB.qb {B B' : Mem} (g : FrB B B') : QB B B' := ⟨fun j hj => g.2.2.2.1 j (by omega), g.2.2.1 184 (by omega) (by omega), g.2.1 185 (by omega) (by omega) (by omega), g.2.2.1 186 (by omega) (by omega), g.2.1 187 (by omega) (by omega) (by omega)⟩
section Ty
variable {by_ : Nat → Nat} {n T own : Nat} {wd : Nat → Int64}
theorem ou_mv {A B A' B' : Mem} {c r i' c' r' k t s s0 m m' y y' : Nat} (cx : Cx0 A B) (ct : Ct k t s m y A B) (rl : Rl A B) (cn : Cn own c r k t s0 y A B) (hR : R by_ n T own wd i' c' r' A' B') (qa : QA A A') (qb : QB B B') (e16 : gi A' 8 16 = ni y') (y40 : y' ≤ 40) (e21 : gi B' 181 21 = ni m') (kb : Kb c r A B A' B') (hc : c ≤ c') (hr : r ≤ r') (hs : gi A' 7 6 = 0 → s ≤ 40 ∧ y' ≤ s)
    (hb : c' ≤ pfN by_ n i' ∧ r' ≤ pfN by_ n i' ∧ k ≤ pfN by_ n i' ∧ t ≤ pfN by_ n i' ∧ s ≤ pfN by_ n i' ∧ 3 * m' ≤ pfN by_ n i') : Ou by_ n T own wd i' c' r' k t s m' y' A' B' := by
  refine ⟨hR, ⟨qa.2.1.trans cx.1, (qb.1 33 (by omega)).trans cx.2.1, (qb.1 34 (by omega)).trans cx.2.2⟩, ⟨⟨(qa.1 9 (by omega)).trans ct.1.1, (qb.1 15 (by omega)).trans ct.1.2⟩, ⟨(qa.1 12 (by omega)).trans ct.2.1.1, (qb.1 18 (by omega)).trans ct.2.1.2⟩, ⟨(qa.1 2 (by omega)).trans ct.2.2.1.1, (qb.1 22 (by omega)).trans ct.2.2.1.2⟩, e21, e16, y40⟩, hb, ?_, ?_⟩
  · unfold Rl; rw [qa.1 3 (by omega), qb.1 26 (by omega)]; exact rl
  · exact cn.cg kb hc hr hs qa.2.2.1 qa.2.2.2.1 qa.2.2.2.2.1 qa.2.2.2.2.2 (qa.1 3 (by omega)) qb.2.1 qb.2.2.1 qb.2.2.2.1 qb.2.2.2.2 (qb.1 26 (by omega))
theorem TS.rg {d c c' m m' y y' r r' nt nt' : Nat} {A B A' B' : Mem} (h : TS own d c c' m m' y y' r nt A B) (q1 : ∀ j, c ≤ j → j < c' → gi A' 9 j = gi A 9 j ∧ gl A' 10 j = gl A 10 j) (q2 : ∀ j, j < r → gi B' 191 j = gi B 191 j ∧ gl B' 192 j = gl B 192 j ∧ gi B' 193 j = gi B 193 j) (q3 : ∀ Y, bt (gi A 8 1) Y = true → bt (gi A' 8 1) Y = true)
    (q4 : ∀ j, m ≤ j → j < m' → gi B' 188 j = gi B 188 j ∧ gi B' 189 j = gi B 189 j ∧ gi B' 190 j = gi B 190 j) (q5 : ∀ j, y ≤ j → j < y' → gi A' 15 j = gi A 15 j ∧ gi A' 16 j = gi A 16 j ∧ gi A' 17 j = gi A 17 j) (hr : r ≤ r') (hn : nt ≤ nt') : TS own d c c' m m' y y' r' nt' A' B' := by
  intro o a w v z ld sk sa sw ts te es nt'' p1 p2 p3 p4 p5 p6
  refine h o a w v z ld sk sa sw ts te es nt'' (fun j j1 j2 => ?_) (fun j j1 => ?_) (fun Y e => p3 Y (q3 Y e)) (fun j j1 j2 => ?_) (fun j j1 j2 => ?_) (by omega)
  · have q := q1 j j1 j2; rw [← q.1, ← q.2]; exact p1 j j1 j2
  · have q := q2 j j1; rw [← q.1, ← q.2.1, ← q.2.2]; exact p2 j (by omega)
  · have q := q4 j j1 j2; rw [← q.1, ← q.2.1, ← q.2.2]; exact p4 j j1 j2
  · have q := q5 j j1 j2; rw [← q.1, ← q.2.1, ← q.2.2]; exact p5 j j1 j2
theorem StP.ou {d i c r k t s m y : Nat} {A B A' B' : Mem} (h : StP by_ n T own wd d i c r k t s m y A B A' B') : ∃ i' c' r' t' s' m' y', Ou by_ n T own wd i' c' r' k t' s' m' y' A' B' ∧ (c ≤ c' ∧ r ≤ r' ∧ t ≤ t' ∧ s ≤ s' ∧ m ≤ m' ∧ y ≤ y' ∧ 3 * m' + pfN by_ n i + 1 ≤ 3 * m + pfN by_ n i') ∧ KO c r m y A B A' B' ∧ (gi A' 7 6 = 0 → TS own d c c' m m' y y' r' t' A' B' ∧ m' ≤ m + 3 * (s' - s) ∧ QK A B A' B') := by
  obtain ⟨i', c', r', t', s', m', y', h1, h2, h3, h4, h5, h6, h7, h8, h9⟩ := h
  exact ⟨i', c', r', t', s', m', y', ⟨h1, h2, h3, h4, h6, h7⟩, h5, h8, h9⟩
theorem StP.mk {d i c r k t s m y i' c' r' t' s' m' y' : Nat} {A B A' B' : Mem} (h : Ou by_ n T own wd i' c' r' k t' s' m' y' A' B') (o : c ≤ c' ∧ r ≤ r' ∧ t ≤ t' ∧ s ≤ s' ∧ m ≤ m' ∧ y ≤ y' ∧ 3 * m' + pfN by_ n i + 1 ≤ 3 * m + pfN by_ n i') (ko : KO c r m y A B A' B') (ts : gi A' 7 6 = 0 → TS own d c c' m m' y y' r' t' A' B' ∧ m' ≤ m + 3 * (s' - s) ∧ QK A B A' B') : StP by_ n T own wd d i c r k t s m y A B A' B' :=
  ⟨i', c', r', t', s', m', y', h.1, h.2.1, h.2.2.1, h.2.2.2.1, o, h.2.2.2.2.1, h.2.2.2.2.2, ko, ts⟩
theorem StP.tr {d i c r k t s m y i1 c1 r1 t1 s1 m1 y1 : Nat} {A B A1 B1 A2 B2 : Mem} (o : c ≤ c1 ∧ r ≤ r1 ∧ t ≤ t1 ∧ s ≤ s1 ∧ m ≤ m1 ∧ y ≤ y1 ∧ 3 * m1 + pfN by_ n i ≤ 3 * m + pfN by_ n i1) (k1 : KO c r m y A B A1 B1) (ts : gi A1 7 6 = 0 → TS own d c c1 m m1 y y1 r1 t1 A1 B1 ∧ m1 ≤ m + 3 * (s1 - s) ∧ QK A B A1 B1) (h2 : StP by_ n T own wd d i1 c1 r1 k t1 s1 m1 y1 A1 B1 A2 B2) : StP by_ n T own wd d i c r k t s m y A B A2 B2 := by
  obtain ⟨i2, c2, r2, t2, s2, m2, y2, g1, g2, g3, g4⟩ := h2.ou
  refine StP.mk g1 (by omega) (k1.trans g3 (by omega) (by omega) (by omega) (by omega)) (fun e => ?_)
  have e1 : gi A1 7 6 = 0 := Classical.byContradiction fun q => g3.2.2.2.1.2.2.2 q e
  have q1 := (ts e1).2.1
  have q2 := (g4 e).2.1
  exact ⟨((ts e1).1.ko g3 (Nat.le_refl _) (Nat.le_refl _) (Nat.le_refl _) (Nat.le_refl _) (by omega) (by omega)).app (g4 e).1 (by omega) (by omega) (by omega) (by omega) (by omega) (by omega), by omega, (ts e1).2.2.trans (g4 e).2.2⟩
theorem StP.pre {d i c r k t s m y : Nat} {A B A1 B1 A2 B2 : Mem} (k1 : KO c r m y A B A1 B1) (qk : QK A B A1 B1) (h : StP by_ n T own wd d i c r k t s m y A1 B1 A2 B2) : StP by_ n T own wd d i c r k t s m y A B A2 B2 := by
  obtain ⟨i2, c2, r2, t2, s2, m2, y2, g1, g2, g3, g4⟩ := h.ou
  exact StP.mk g1 g2 (k1.trans g3 (Nat.le_refl _) (Nat.le_refl _) (Nat.le_refl _) (Nat.le_refl _)) (fun e => ⟨(g4 e).1, (g4 e).2.1, qk.trans (g4 e).2.2⟩)
theorem wr_isWord {B : Mem} (h : ¬ gi B 181 11 = 0) {x : Int32} : S_X11_isWord x B = some (0, B) := by unfold S_X11_isWord; rw [if_pos h]
theorem wr_blk {B : Mem} (h : ¬ gi B 181 11 = 0) {rS : Mem → Option (Unit × Mem)} {F : Nat} : SJ_X11_block_6 rS (F + 1) B = some ((), B) := by
  rw [SJ_X11_block_6]; dsimp only
  rw [if_pos h]
  unfold SJ_X11_block_61
  rw [wr_must h, bS]
def StW (by_ : Nat → Nat) (n T : Nat) (wd : Nat → Int64) (i : Nat) : Prop := kap by_ n T wd i = 303 ∨ kap by_ n T wd i = 304 ∨ kap by_ n T wd i = 305
/-- a step in both, with v tries around it -/
def StepR (by_ : Nat → Nat) (n T own : Nat) (wd : Nat → Int64) (v e : Nat) (rC : Int32 → Mem → Option (Unit × Mem)) (rR : Mem → Option (Unit × Mem)) : Prop :=
  (∀ i c r k t s m y A B, Ou by_ n T own wd i c r k t s m y A B → gi B 181 32 = ni v → StW by_ n T wd i → ∃ A' B', rC (ni v) A = some ((), A') ∧ rR B = some ((), B') ∧ FrC2 A A' ∧ FrB2 B B' ∧ (Br n T e A' B' ∨ StP by_ n T own wd (3 - v) i c r k t s m y A B A' B')) ∧
  (∀ i c r A B, R by_ n T own wd i c r A B → ¬ StW by_ n T wd i → rC (ni v) A = (S_X4_reject A).bind fun w => some ((), w.2))
theorem Ou.bd {A B : Mem} {i c r k t s m y : Nat} (h : Ou by_ n T own wd i c r k t s m y A B) : pfN by_ n i ≤ 900 ∧ c ≤ 900 ∧ r ≤ 900 ∧ k ≤ 900 ∧ t ≤ 900 ∧ s ≤ 900 ∧ m ≤ 300 := by
  have p9 := h.1.p9
  have hb := h.2.2.2.1
  omega
theorem Ou.br {A B A' B' : Mem} {i c r k t s m y b : Nat} (h : Ou by_ n T own wd i c r k t s m y A B) (f : FrC A A') (g : FrB B B') (hb : Bk by_ n T own wd b A' B') (b1 : b ≤ 1200) : Br n T 0 A' B' :=
  br_of hb b1 (h.2.2.1.fr f g) (by have := h.bd; omega) (by have := h.bd; omega) (by have := h.bd; omega)
theorem blk_step {A B : Mem} {i c r F : Nat} {rR : Mem → Option (Unit × Mem)} (h : R by_ n T own wd i c r A B) (hw : StW by_ n T wd i) : SJ_X11_block_6 rR (F + 1) B = (rR B).bind fun w => SJ_X11_block_6 rR F w.2 := by
  rw [SJ_X11_block_6]; dsimp only
  rw [if_neg (fun q => q h.2.2.2.2.1), isSign_n h (x := 125) (b := 125) rfl (by omega) (by omega) (by unfold StW at hw; omega), bS]; dsimp only
  rw [if_neg (fun q => q rfl)]
  unfold SJ_X11_block_47
  rcases hw with hw | hw | hw
  · rw [isWord_y h (x := 4) (w := 3) rfl (by omega) hw, bS]; dsimp only
    rw [if_pos (by decide)]
  · rw [isWord_n h (x := 4) (w := 3) rfl (by omega) (by omega), bS]; dsimp only
    rw [if_neg (fun q => q rfl), isWord_y h (x := 5) (w := 4) rfl (by omega) hw, bS]; dsimp only
    rw [if_pos (by decide)]
  · rw [isWord_n h (x := 4) (w := 3) rfl (by omega) (by omega), bS]; dsimp only
    rw [if_neg (fun q => q rfl), isWord_n h (x := 5) (w := 4) rfl (by omega) (by omega), bS]; dsimp only
    rw [if_neg (fun q => q rfl), isWord_y h (x := 6) (w := 5) rfl (by omega) hw, bS]; dsimp only
    rw [if_neg (by decide)]
theorem blk_stop {A B : Mem} {i c r F : Nat} {rR : Mem → Option (Unit × Mem)} (h : R by_ n T own wd i c r A B) (hw : ¬ StW by_ n T wd i) (hk : kap by_ n T wd i ≠ 125) : SJ_X11_block_6 rR (F + 1) B = (S_X11_stops B).bind fun w => SJ_X11_block_6 rR F w.2 := by
  unfold StW at hw
  rw [SJ_X11_block_6]; dsimp only
  rw [if_neg (fun q => q h.2.2.2.2.1), isSign_n h (x := 125) (b := 125) rfl (by omega) (by omega) hk, bS]; dsimp only
  rw [if_neg (fun q => q rfl), isWord_n h (x := 4) (w := 3) rfl (by omega) (by omega), bS]; dsimp only
  rw [if_neg (fun q => q rfl), isWord_n h (x := 5) (w := 4) rfl (by omega) (by omega), bS]; dsimp only
  rw [if_neg (fun q => q rfl), isWord_n h (x := 6) (w := 5) rfl (by omega) (by omega), bS]; dsimp only
  rw [if_pos rfl]
theorem lk_steps {v e : Nat} {rC : Int32 → Mem → Option (Unit × Mem)} {rR : Mem → Option (Unit × Mem)} (hr : StepR by_ n T own wd v e rC rR) :
    ∀ {g τ F F' i c r k t s m y : Nat} {A B : Mem}, Ou by_ n T own wd i c r k t s m y A B → gi B 181 32 = ni v → τ ≤ pfN by_ n i → n ≤ pfN by_ n i + g → g + 2 ≤ F → g + 2 ≤ F' →
    ∃ A1 x A' B', SJ_X4_readSteps_2 rC F (ni v) (ni τ) A = some ((), A1) ∧ S_X4_take 125 A1 = some (x, A') ∧ SJ_X11_block_6 rR F' B = some ((), B') ∧ FrC2 A A' ∧ FrB2 B B' ∧ (Br n T e A' B' ∨ StP by_ n T own wd (3 - v) i c r k t s m y A B A' B') := by
  intro g
  induction g with
  | zero =>
    intro τ F F' i c r k t s m y A B h h32 hτ hn hF hF'
    obtain ⟨F, rfl⟩ : ∃ q, F = q + 1 + 1 := ⟨F - 2, by omega⟩
    obtain ⟨F', rfl⟩ : ∃ q, F' = q + 1 + 1 := ⟨F' - 2, by omega⟩
    have bd := h.bd
    have hk0 : kap by_ n T wd i = 0 := by
      refine Classical.byContradiction fun q => ?_
      have := (h.1.1.pf (kap_T h.1 q)).1
      omega
    have hw : ¬ StW by_ n T wd i := by unfold StW; omega
    obtain ⟨A1, B1, s1, s2, s3, s4, s5⟩ := stop h.1 (by omega)
    have br := (h.br s3 s4 s5 (by omega))
    rw [SJ_X4_readSteps_2]; dsimp only
    rw [if_neg (show ¬ (900 : Int32) < ni τ from fun q => by have := (ni_lt (a := 900) (by omega) (by omega)).mp q; omega), kind_eq h.1, bS]; dsimp only
    rw [if_neg (by rw [hk0]; decide), if_neg (fun q => q h.1.2.2.2.1), hr.2 i c r A B h.1 hw, s1, bS, bS]; dsimp only
    rw [br.1.steps, blk_stop h.1 hw (by omega), s2, bS, wr_blk br.2.1.2.1]
    exact ⟨A1, 0, A1, B1, rfl, bk_take br.1.2.2.1 (by decide), rfl, s3.to2, s4.to2, Or.inl (br.mono (by omega))⟩
  | succ g ih =>
    intro τ F F' i c r k t s m y A B h h32 hτ hn hF hF'
    obtain ⟨F, rfl⟩ : ∃ q, F = q + 1 + 1 := ⟨F - 2, by omega⟩
    obtain ⟨F', rfl⟩ : ∃ q, F' = q + 1 + 1 := ⟨F' - 2, by omega⟩
    have bd := h.bd
    rw [SJ_X4_readSteps_2]; dsimp only
    rw [if_neg (show ¬ (900 : Int32) < ni τ from fun q => by have := (ni_lt (a := 900) (by omega) (by omega)).mp q; omega), kind_eq h.1, bS]; dsimp only
    by_cases k125 : kap by_ n T wd i = 125
    · rw [k125, if_pos (show ni 125 = (125 : Int32) from rfl)]
      obtain ⟨x, A1, B1, l1, l2, l3, l4, l5⟩ := lk_take h.1 (by omega) (b := 125) (x := 125) rfl (by omega) (by omega)
      rw [SJ_X11_block_6]; dsimp only
      rw [if_neg (fun q => q h.1.2.2.2.2.1), isSign_y h.1 (x := 125) (b := 125) rfl (by omega) (by omega) k125, bS]; dsimp only
      rw [if_pos (by decide)]
      unfold SJ_X11_block_61
      rw [l2, bS]
      refine ⟨A, x, A1, B1, rfl, l1, rfl, l3.to2, l4.to2, ?_⟩
      rcases l5 with l5 | ⟨l5, l6, l7, l8, l9⟩
      · exact Or.inl ((h.br l3 l4 l5 (by omega)).mono (by omega))
      · have kb : ∀ {c' r'}, Kb c' r' A B A1 B1 := by intro c' r'; rw [l6]; exact kb_adv l7
        have ct1 := h.2.2.1.fr l3 l4
        have hb := h.2.2.2.1
        refine Or.inr (StP.mk (ou_mv h.2.1 h.2.2.1 h.2.2.2.2.1 h.2.2.2.2.2 l8 l3.qa l4.qb ct1.2.2.2.2.1 ct1.2.2.2.2.2 ct1.2.2.2.1 kb (Nat.le_refl _) (Nat.le_refl _) (fun q => ?_) (by omega)) (by omega) (ko_fr l3 l4 kb) (fun _ => ⟨ts_nil, by omega, qk_fr l3 l4⟩))
        have e0 : gi A 7 6 = 0 := Classical.byContradiction fun z => (kb (c' := 0) (r' := 0)).2.2.2 z q
        exact ⟨(h.2.2.2.2.2 e0).2.2.1, (h.2.2.2.2.2 e0).2.2.2.1⟩
    · have kl := kap_lt h.1
      rw [if_neg (show ¬ ni (kap by_ n T wd i) = 125 from fun q => k125 ((ni_inj (by omega) (by omega)).mp q)), if_neg (fun q => q h.1.2.2.2.1)]
      by_cases hw : StW by_ n T wd i
      · obtain ⟨A1, B1, s1, s2, s3, s4, s5⟩ := hr.1 i c r k t s m y A B h h32 hw
        rw [s1, bS, blk_step h.1 hw, s2, bS]; dsimp only
        rcases s5 with s5 | s5
        · rw [s5.1.steps, wr_blk s5.2.1.2.1]
          exact ⟨A1, 0, A1, B1, rfl, bk_take s5.1.2.2.1 (by decide), rfl, s3, s4, Or.inl s5⟩
        · obtain ⟨i1, c1, r1, t1, s1', m1, y1, o1, o2, o3, o4⟩ := s5.ou
          obtain ⟨A2, x, A3, B3, z1, z2, z3, z4, z5, z6⟩ := ih (τ := τ + 1) (F := F + 1) (F' := F' + 1) o1 (o3.2.2.1.2.2.trans h32) (by omega) (by omega) (by omega) (by omega)
          rw [show ni τ + 1 = ni (τ + 1) from ni_add τ 1, z1, z3]
          refine ⟨A2, x, A3, B3, rfl, z2, rfl, s3.trans z4, s4.trans z5, ?_⟩
          rcases z6 with z6 | z6
          · exact Or.inl z6
          · exact Or.inr (StP.tr (by omega) o3 o4 z6)
      · obtain ⟨A1, B1, s1, s2, s3, s4, s5⟩ := stop h.1 (by omega)
        have br := (h.br s3 s4 s5 (by omega))
        rw [hr.2 i c r A B h.1 hw, s1, bS, bS]; dsimp only
        rw [br.1.steps, blk_stop h.1 hw k125, s2, bS, wr_blk br.2.1.2.1]
        exact ⟨A1, 0, A1, B1, rfl, bk_take br.1.2.2.1 (by decide), rfl, s3.to2, s4.to2, Or.inl (br.mono (by omega))⟩
end Ty

-- ===== the whole text =====
def PtP (by_ : Nat → Nat) (n T own : Nat) (wd : Nat → Int64) (c r t s m y : Nat) (A B A' B' : Mem) : Prop := ∃ i' c' r' k' t' s' m' y', Ou by_ n T own wd i' c' r' k' t' s' m' y' A' B' ∧ (c ≤ c' ∧ r ≤ r' ∧ t ≤ t' ∧ s ≤ s' ∧ m ≤ m' ∧ y ≤ y') ∧ KO c r m y A B A' B' ∧ (gi A' 7 6 = 0 → TS own 3 c c' m m' y y' r' t' A' B' ∧ m' ≤ m + 3 * (s' - s))
theorem bk_read50 {A : Mem} (h : ¬ gi A 7 5 = 0) {F : Nat} {x : Int32} : SJ_X4_read_50 (F + 1) x A = SJ_X4_read_116 A := by
  rw [SJ_X4_read_50]; dsimp only
  rw [bk_kind h, bS]; dsimp only
  rw [if_neg (show ¬ (4 : Int32) = 0 by decide), if_pos h, ite_self]
theorem wr_reads {B : Mem} (h : ¬ gi B 181 11 = 0) {F : Nat} : SJ_X11_reads_114 (F + 1) B = some ((), B) := by
  rw [SJ_X11_reads_114]; dsimp only
  rw [if_pos h]
section Pt
variable {by_ : Nat → Nat} {n T own : Nat} {wd : Nat → Int64}
theorem PtP.tr {c r t s m y c1 r1 t1 s1 m1 y1 : Nat} {A B A1 B1 A2 B2 : Mem} (o : c ≤ c1 ∧ r ≤ r1 ∧ t ≤ t1 ∧ s ≤ s1 ∧ m ≤ m1 ∧ y ≤ y1) (k1 : KO c r m y A B A1 B1) (ts : gi A1 7 6 = 0 → TS own 3 c c1 m m1 y y1 r1 t1 A1 B1 ∧ m1 ≤ m + 3 * (s1 - s)) (h2 : PtP by_ n T own wd c1 r1 t1 s1 m1 y1 A1 B1 A2 B2) : PtP by_ n T own wd c r t s m y A B A2 B2 := by
  obtain ⟨i2, c2, r2, k2, t2, s2, m2, y2, g1, g2, g3, g4⟩ := h2
  refine ⟨i2, c2, r2, k2, t2, s2, m2, y2, g1, by omega, k1.trans g3 (by omega) (by omega) (by omega) (by omega), fun e => ?_⟩
  have e1 : gi A1 7 6 = 0 := Classical.byContradiction fun q => g3.2.2.2.1.2.2.2 q e
  have q1 := (ts e1).2
  have q2 := (g4 e).2
  exact ⟨((ts e1).1.ko g3 (Nat.le_refl _) (Nat.le_refl _) (Nat.le_refl _) (Nat.le_refl _) (by omega) (by omega)).app (g4 e).1 (by omega) (by omega) (by omega) (by omega) (by omega) (by omega), by omega⟩
theorem tok4 {A B : Mem} {i c r : Nat} (h : R by_ n T own wd i c r A B) : (gi B 181 6 = 4 ↔ kap by_ n T wd i = 0) := by
  rcases tok h with t | t | t | t | ⟨w, t⟩ | ⟨b', t⟩
  · exact ⟨fun _ => t.1, fun _ => t.2.2⟩
  · rw [t.2.2]; exact ⟨fun e => absurd e (by decide), fun e => by omega⟩
  · rw [t.2.2.1]; exact ⟨fun e => absurd e (by decide), fun e => by omega⟩
  · rw [t.2.2.1]; exact ⟨fun e => absurd e (by decide), fun e => by omega⟩
  · rw [t.2.2.2.1]; exact ⟨fun e => absurd e (by decide), fun e => by omega⟩
  · rw [t.2.2.2.2.1]; exact ⟨fun e => absurd e (by decide), fun e => by omega⟩
theorem lk_parts : ∀ {g τ F F' i c r k t s m y : Nat} {A B : Mem}, Ou by_ n T own wd i c r k t s m y A B → gi B 181 32 = 0 → τ ≤ pfN by_ n i → n ≤ pfN by_ n i + g → g + 2 ≤ F → g + 2 ≤ F' →
    ∃ A' B', SJ_X4_read_50 F (ni τ) A = SJ_X4_read_116 A' ∧ SJ_X11_reads_114 F' B = some ((), B') ∧ FrC2 A A' ∧ FrB2 B B' ∧ (Br n T 13 A' B' ∨ PtP by_ n T own wd c r t s m y A B A' B') := by
  intro g
  induction g with
  | zero =>
    intro τ F F' i c r k t s m y A B h h32 hτ hn hF hF'
    obtain ⟨F, rfl⟩ : ∃ q, F = q + 1 + 1 := ⟨F - 2, by omega⟩
    obtain ⟨F', rfl⟩ : ∃ q, F' = q + 1 + 1 := ⟨F' - 2, by omega⟩
    have bd := h.bd
    have hk0 : kap by_ n T wd i = 0 := by
      refine Classical.byContradiction fun q => ?_
      have := (h.1.1.pf (kap_T h.1 q)).1
      omega
    rw [SJ_X4_read_50, SJ_X11_reads_114]; dsimp only
    rw [if_neg (show ¬ (900 : Int32) < ni τ from fun q => by have := (ni_lt (a := 900) (by omega) (by omega)).mp q; omega), kind_eq h.1, bS]; dsimp only
    rw [hk0, if_pos (show ni 0 = 0 from rfl), if_neg (fun q => q h.1.2.2.2.2.1), if_pos ((tok4 h.1).mpr hk0)]
    exact ⟨A, B, rfl, rfl, FrC2.rf, FrB2.rf, Or.inr ⟨i, c, r, k, t, s, m, y, h, by omega, KO.rf, fun _ => ⟨ts_nil, by omega⟩⟩⟩
  | succ g ih =>
    intro τ F F' i c r k t s m y A B h h32 hτ hn hF hF'
    obtain ⟨F, rfl⟩ : ∃ q, F = q + 1 + 1 := ⟨F - 2, by omega⟩
    obtain ⟨F', rfl⟩ : ∃ q, F' = q + 1 + 1 := ⟨F' - 2, by omega⟩
    have bd := h.bd
    have kl := kap_lt h.1
    have fin : ∀ {A1 B1 : Mem}, FrC2 A A1 → FrB2 B B1 → (Br n T 13 A1 B1 ∨ ∃ i1 c1 r1 k1 t1 s1 m1 y1, Ou by_ n T own wd i1 c1 r1 k1 t1 s1 m1 y1 A1 B1 ∧ (c ≤ c1 ∧ r ≤ r1 ∧ t ≤ t1 ∧ s ≤ s1 ∧ m ≤ m1 ∧ y ≤ y1 ∧ pfN by_ n i < pfN by_ n i1) ∧ KO c r m y A B A1 B1 ∧ (gi A1 7 6 = 0 → TS own 3 c c1 m m1 y y1 r1 t1 A1 B1 ∧ m1 ≤ m + 3 * (s1 - s))) →
        ∃ A' B', SJ_X4_read_50 (F + 1) (ni τ + 1) A1 = SJ_X4_read_116 A' ∧ SJ_X11_reads_114 (F' + 1) B1 = some ((), B') ∧ FrC2 A A' ∧ FrB2 B B' ∧ (Br n T 13 A' B' ∨ PtP by_ n T own wd c r t s m y A B A' B') := by
      intro A1 B1 f1 f2 f3
      rcases f3 with br | ⟨i1, c1, r1, k1, t1, s1, m1, y1, o1, o2, o3, o4⟩
      · exact ⟨A1, B1, bk_read50 br.1.2.2.1, wr_reads br.2.1.2.1, f1, f2, Or.inl br⟩
      · obtain ⟨A2, B2, z1, z2, z3, z4, z5⟩ := ih (τ := τ + 1) (F := F + 1) (F' := F' + 1) o1 (o3.2.2.1.2.2.trans h32) (by omega) (by omega) (by omega) (by omega)
        refine ⟨A2, B2, by rw [show ni τ + 1 = ni (τ + 1) from ni_add τ 1]; exact z1, z2, f1.trans z3, f2.trans z4, ?_⟩
        rcases z5 with z5 | z5
        · exact Or.inl z5
        · exact Or.inr (PtP.tr (by omega) o3 o4 z5)
    rw [SJ_X4_read_50, SJ_X11_reads_114]; dsimp only
    rw [if_neg (show ¬ (900 : Int32) < ni τ from fun q => by have := (ni_lt (a := 900) (by omega) (by omega)).mp q; omega), kind_eq h.1, bS, if_neg (show ¬ ¬ gi B 181 11 = 0 from fun q => q h.1.2.2.2.2.1)]; dsimp only
    by_cases k0 : kap by_ n T wd i = 0
    · rw [k0, if_pos (show ni 0 = 0 from rfl), if_pos ((tok4 h.1).mpr k0)]
      exact ⟨A, B, rfl, rfl, FrC2.rf, FrB2.rf, Or.inr ⟨i, c, r, k, t, s, m, y, h, by omega, KO.rf, fun _ => ⟨ts_nil, by omega⟩⟩⟩
    rw [if_neg (show ¬ ni (kap by_ n T wd i) = 0 from fun q => k0 ((ni_inj (b := 0) (by omega) (by omega)).mp q)), if_neg (show ¬ ¬ gi A 7 5 = 0 from fun q => q h.1.2.2.2.1), if_neg (show ¬ gi B 181 6 = 4 from fun q => k0 ((tok4 h.1).mp q)), kind_eq h.1, bS]; dsimp only
    unfold SJ_X4_read_110 SJ_X11_reads_184
    by_cases k1 : kap by_ n T wd i = 301
    · rw [k1, if_neg (show ¬ ¬ ni 301 = 301 by decide), isWord_y h.1 (x := 2) (w := 1) rfl (by omega) k1, bS]; dsimp only
      rw [if_neg (by decide)]
      obtain ⟨A1, B1, g1, g2, g3, g4, g5⟩ := lk_const h k1
      rw [g1, g2, bS, bS]
      refine fin g3 g4 ?_
      rcases g5 with g5 | ⟨i1, c1, r1, k1', o1, o2, o3, o4⟩
      · exact Or.inl (g5.mono (by omega))
      · exact Or.inr ⟨i1, c1, r1, k1', t, s, m, y, o1, by omega, o3, fun _ => ⟨o4, by omega⟩⟩
    rw [if_pos (show ¬ ni (kap by_ n T wd i) = 301 from fun q => k1 ((ni_inj (b := 301) (by omega) (by omega)).mp q)), isWord_n h.1 (x := 2) (w := 1) rfl (by omega) k1, bS, kind_eq h.1, bS]; dsimp only
    rw [if_pos rfl]
    by_cases k2 : kap by_ n T wd i = 302
    · rw [k2, if_neg (show ¬ ¬ ni 302 = 302 by decide), isWord_y h.1 (x := 3) (w := 2) rfl (by omega) k2, bS]; dsimp only
      rw [if_neg (by decide)]
      obtain ⟨A1, B1, g1, g2, g3, g4, g5⟩ := lk_rule h k2
      rw [g1, g2, bS, bS]
      refine fin g3 g4 ?_
      rcases g5 with g5 | ⟨i1, c1, r1, k1', o1, o2, o3, o4⟩
      · exact Or.inl (g5.mono (by omega))
      · exact Or.inr ⟨i1, c1, r1, k1', t, s, m, y, o1, by omega, o3, fun _ => ⟨o4, by omega⟩⟩
    rw [if_pos (show ¬ ni (kap by_ n T wd i) = 302 from fun q => k2 ((ni_inj (b := 302) (by omega) (by omega)).mp q)), isWord_n h.1 (x := 3) (w := 2) rfl (by omega) k2, bS]; dsimp only
    rw [if_pos rfl]
    have st := lk_step (by_ := by_) (n := n) (T := T) (own := own) (wd := wd) (f := 6) (v := 0) (by omega) (by omega)
    by_cases hw : StW by_ n T wd i
    · obtain ⟨A1, B1, g1, g2, g3, g4, g5⟩ := st.1 i c r k t s m y A B h h32 hw
      have g1 : S_X4_readStep 6 0 A = some ((), A1) := g1
      rw [g1, bS]; dsimp only
      have eR : ((S_X11_isWord (4 : Int32) B).bind fun w4 =>
          if ¬ w4.1 = 0 then ((S_X11_step 6 w4.2).bind fun w1 => SJ_X11_reads_114 (F' + 1) w1.2) else
          ((S_X11_isWord (5 : Int32) w4.2).bind fun w5 =>
          if ¬ w5.1 = 0 then ((S_X11_step 6 w5.2).bind fun w1 => SJ_X11_reads_114 (F' + 1) w1.2) else
          ((S_X11_isWord (6 : Int32) w5.2).bind fun w6 =>
          if w6.1 = 0 then ((S_X11_stops w6.2).bind fun w7 => SJ_X11_reads_114 (F' + 1) w7.2) else
          ((S_X11_step 6 w6.2).bind fun w1 => SJ_X11_reads_114 (F' + 1) w1.2)))) = SJ_X11_reads_114 (F' + 1) B1 := by
        rcases hw with hw | hw | hw
        · rw [isWord_y h.1 (x := 4) (w := 3) rfl (by omega) hw, bS]; dsimp only
          rw [if_pos (by decide), g2, bS]
        · rw [isWord_n h.1 (x := 4) (w := 3) rfl (by omega) (by omega), bS]; dsimp only
          rw [if_neg (fun q => q rfl), isWord_y h.1 (x := 5) (w := 4) rfl (by omega) hw, bS]; dsimp only
          rw [if_pos (by decide), g2, bS]
        · rw [isWord_n h.1 (x := 4) (w := 3) rfl (by omega) (by omega), bS]; dsimp only
          rw [if_neg (fun q => q rfl), isWord_n h.1 (x := 5) (w := 4) rfl (by omega) (by omega), bS]; dsimp only
          rw [if_neg (fun q => q rfl), isWord_y h.1 (x := 6) (w := 5) rfl (by omega) hw, bS]; dsimp only
          rw [if_neg (by decide), g2, bS]
      rw [eR]
      refine fin g3 g4 ?_
      rcases g5 with g5 | g5
      · exact Or.inl g5
      · obtain ⟨i1, c1, r1, t1, s1, m1, y1, o1, o2, o3, o4⟩ := g5.ou
        exact Or.inr ⟨i1, c1, r1, k, t1, s1, m1, y1, o1, by omega, o3, fun e => ⟨(o4 e).1, (o4 e).2.1⟩⟩
    · obtain ⟨A1, B1, s1, s2, s3, s4, s5⟩ := stop h.1 (by omega)
      have br := (h.br s3 s4 s5 (by omega))
      have g1 : S_X4_readStep 6 0 A = (S_X4_reject A).bind fun w => some ((), w.2) := st.2 i c r A B h.1 hw
      unfold StW at hw
      rw [g1, s1, bS, bS, isWord_n h.1 (x := 4) (w := 3) rfl (by omega) (by omega), bS]; dsimp only
      rw [if_neg (fun q => q rfl), isWord_n h.1 (x := 5) (w := 4) rfl (by omega) (by omega), bS]; dsimp only
      rw [if_neg (fun q => q rfl), isWord_n h.1 (x := 6) (w := 5) rfl (by omega) (by omega), bS]; dsimp only
      rw [if_pos rfl, s2, bS]
      exact fin s3.to2 s4.to2 (Or.inl (br.mono (by omega)))
end Pt

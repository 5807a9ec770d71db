-- ===== settleAll =====
def SI0 (A : Mem) : Prop := ClO A ∧ MkI A ∧ ∀ q, isC A q → mkA A q = 0 ∨ mkA A q = 2 ∨ mkA A q = 3
theorem SI.z {A : Mem} (h : SI A []) : SI0 A := by
  refine ⟨h.1, h.2.1, fun q hq => ?_⟩
  rcases h.2.2.2.2.2.2.1 q hq with e | e | e | e
  · exact Or.inl e
  · have := (h.2.2.2.2.2.1 q hq).mp e; cases this
  · exact Or.inr (Or.inl e)
  · exact Or.inr (Or.inr e)
theorem ft_d {A : Mem} {x : Int32} : FrT A (si A 141 2 x) := ⟨kg_si, fun a a1 _ _ => gi_ne a1, fun _ _ _ => rfl, fun y k hy q => by rw [gi_ne (by omega)]; exact q⟩
theorem settle_ok {A : Mem} {q : Nat × Nat} (h : SI0 A) (hq : isC A q) (h0 : mkA A q = 0) : ∃ A', S_X5_settle (ni (8 * q.1 + q.2)) A = some ((), A') ∧ FrT A A' ∧ SI0 A' ∧ ¬ mkA A' q = 0 := by
  obtain ⟨h1, h2, h3⟩ := h
  have f := @ft_d A 0
  have kp := f.kp h1
  have em : ∀ p, p.1 < 30 → mkA (si A 141 2 0) p = mkA A p := fun p hp => by unfold mkA; rw [gi_ne (by omega)]
  have un : Un (si A 141 2 0) + 0 ≤ 240 := by
    have : Un (si A 141 2 0) ≤ 240 := by unfold Un; exact cnt_le
    omega
  have s0 : SI (si A 141 2 0) [] := by
    refine ⟨f.clo h1, mki_kp h2 kp (fun y hy => ⟨gi_ne (by omega), rfl⟩), si_eq, trivial, fun p hp => absurd hp (by simp), fun p hp => ?_, fun p hp => ?_, trivial, un⟩
    · have hp := (isC_kp kp).mp hp
      rw [em p hp.1]
      refine ⟨fun e => ?_, fun e => by cases e⟩
      rcases h3 p hp with z | z | z <;> rw [z] at e <;> exact absurd e (by decide)
    · have hp := (isC_kp kp).mp hp
      rw [em p hp.1]
      rcases h3 p hp with z | z | z
      · exact Or.inl z
      · exact Or.inr (Or.inr (Or.inl z))
      · exact Or.inr (Or.inr (Or.inr z))
  obtain ⟨A1, a1, a2, a3, a4, a5⟩ := si_push s0 ((isC_kp kp).mpr hq) ((em q hq.1).trans h0) (fun p L' e => by cases e)
  obtain ⟨A2, b1, b2, b3⟩ := settle_lp (μ := 500) (τ := 0) (F := FU) a2 (by show 2 * Un A1 + 1 ≤ 500; omega) (by omega) (by have : FU = 4000000 := rfl; omega)
  unfold S_X5_settle
  rw [a1, bS]
  refine ⟨A2, b1, (f.trans a3).trans b2, b3.z, ?_⟩
  exact b2.2.2.2 q.1 q.2 hq.1 (by unfold mkA at a5; rw [a5]; decide)
theorem sa_41 {k2 : Int32 → Mem → Option (Unit × Mem)} {y n : Nat} (hy : y < 30) (hn : n ≤ 8) : ∀ {j k F : Nat} {A : Mem}, k + j = n → j < F → SI0 A → (∀ i, i < n → isC A (y, i)) → ∃ A', SJ_X5_settleAll_41 k2 F (ni y) y (ni n) (ni k) A = k2 (ni y + 1) A' ∧ FrT A A' ∧ SI0 A' ∧ ∀ i, k ≤ i → i < n → ¬ mkA A' (y, i) = 0 := by
  intro j
  induction j with
  | zero =>
    intro k F A hk hF h _
    obtain ⟨F, rfl⟩ : ∃ u, F = u + 1 := ⟨F - 1, by omega⟩
    rw [SJ_X5_settleAll_41]; dsimp only
    rw [if_pos ((ni_le (by omega) (by omega)).mpr (by omega))]
    exact ⟨A, rfl, FrT.rf, h, fun i h1 h2 => by omega⟩
  | succ j ih =>
    intro k F A hk hF h hc
    obtain ⟨F, rfl⟩ : ∃ u, F = u + 1 := ⟨F - 1, by omega⟩
    rw [SJ_X5_settleAll_41]; dsimp only
    rw [if_neg (fun e => by have := (ni_le (by omega) (by omega)).mp e; omega), gdT ((ni_inb (by omega)).mpr (by omega)), ni_tn (by omega)]
    unfold SJ_X5_settleAll_68
    have ei : ni y * 8 + ni k = ni (8 * y + k) := by rw [show (8 : Int32) = ni 8 from rfl, ni_mul, ni_add, Nat.mul_comm]
    obtain ⟨A1, a1, a2, a3, a4⟩ : ∃ A1, (if ¬ gi A (22 + 4 * y) k = 0 then SJ_X5_settleAll_41 k2 F (ni y) y (ni n) (ni k + 1) A else ((S_X5_settle (ni y * 8 + ni k) A).bind fun w1 => SJ_X5_settleAll_41 k2 F (ni y) y (ni n) (ni k + 1) w1.2)) = SJ_X5_settleAll_41 k2 F (ni y) y (ni n) (ni (k + 1)) A1 ∧ FrT A A1 ∧ SI0 A1 ∧ ¬ mkA A1 (y, k) = 0 := by
      rw [show ni k + 1 = ni (k + 1) from ni_add k 1, ei]
      by_cases e : gi A (22 + 4 * y) k = 0
      · rw [if_neg (fun z => z e)]
        obtain ⟨A1, b1, b2, b3, b4⟩ := settle_ok (q := (y, k)) h (hc k (by omega)) e
        have b1 : S_X5_settle (ni (8 * y + k)) A = some ((), A1) := b1
        rw [b1, bS]
        exact ⟨A1, rfl, b2, b3, b4⟩
      · rw [if_pos e]
        exact ⟨A, rfl, FrT.rf, h, e⟩
    rw [a1]
    have kp := a2.kp h.1
    obtain ⟨A', g1, g2, g3, g4⟩ := ih (k := k + 1) (F := F) (A := A1) (by omega) (by omega) a3 (fun i hi => (isC_kp kp).mpr (hc i hi))
    refine ⟨A', g1, a2.trans g2, g3, fun i h1 h2 => ?_⟩
    by_cases e : i = k
    · subst e; exact g2.2.2.2 y i hy a4
    · exact g4 i (by omega) h2
theorem sa_2 : ∀ {j y F : Nat} {A : Mem}, y + j = 30 → j < F → SI0 A → ∃ A', SJ_X5_settleAll_2 F (ni y) A = some ((), A') ∧ FrT A A' ∧ SI0 A' ∧ ∀ q, isC A q → y ≤ q.1 → ¬ mkA A' q = 0 := by
  intro j
  induction j with
  | zero =>
    intro y F A hy hF h
    obtain ⟨F, rfl⟩ : ∃ u, F = u + 1 := ⟨F - 1, by omega⟩
    rw [SJ_X5_settleAll_2]; dsimp only
    rw [if_pos (show (30 : Int32) ≤ ni y from (ni_le (a := 30) (by omega) (by omega)).mpr (by omega))]
    exact ⟨A, rfl, FrT.rf, h, fun q hq hy' => by have := hq.1; omega⟩
  | succ j ih =>
    intro y F A hy hF h
    obtain ⟨F, rfl⟩ : ∃ u, F = u + 1 := ⟨F - 1, by omega⟩
    rw [SJ_X5_settleAll_2]; dsimp only
    rw [if_neg (show ¬ (30 : Int32) ≤ ni y from fun e => by have := (ni_le (a := 30) (by omega) (by omega)).mp e; omega), gdT ((ni_inb (by omega)).mpr (by omega))]
    simp only [show (ni y).toNatClampNeg = y from ni_tn (by omega)]
    unfold SJ_X5_settleAll_37
    -- how many consts
    obtain ⟨n, n8, hn, hc, hall⟩ : ∃ n, n ≤ 8 ∧ (if ¬ (gr A (21 + 4 * y) 0) = none then ((fR A 6 6 (gr A (21 + 4 * y) 0)).bind fun x3 => (aN A x3).bind fun x4 => SJ_X5_settleAll_41 (SJ_X5_settleAll_2 F) FU (ni y) y x4 (0 : Int32) A) else (SJ_X5_settleAll_41 (SJ_X5_settleAll_2 F) FU (ni y) y (0 : Int32) (0 : Int32) A)) = SJ_X5_settleAll_41 (SJ_X5_settleAll_2 F) FU (ni y) y (ni n) (ni 0) A ∧ (∀ i, i < n → isC A (y, i)) ∧ ∀ i, isC A (y, i) → i < n := by
      cases hs : gr A (21 + 4 * y) 0 with
      | none =>
        rw [if_neg (fun z => z rfl)]
        exact ⟨0, by omega, rfl, fun i hi => by omega, fun i ⟨_, s, h2, _⟩ => by
          have h2 : gr A (21 + 4 * y) 0 = some s := h2
          rw [hs] at h2; cases h2⟩
      | some s =>
        obtain ⟨⟨o1, o2, o3, o4, o5, o6⟩, g2, ⟨g3, g4, g5⟩, -⟩ := h.1.2 y (by omega) s hs
        rw [if_pos (by simp), bi_fR o3 o4.2.2.1, bi_aN o5.2.2.1 (by omega) (by omega) rfl]
        exact ⟨ln A (s + 3), g4, rfl, fun i hi => ⟨by omega, s, hs, hi⟩, fun i ⟨_, s', h2, h3⟩ => by
          have h2 : gr A (21 + 4 * y) 0 = some s' := h2
          rw [hs] at h2; cases h2; exact h3⟩
    rw [hn]
    obtain ⟨A1, a1, a2, a3, a4⟩ := sa_41 (k2 := SJ_X5_settleAll_2 F) (y := y) (n := n) (by omega) n8 (j := n) (k := 0) (F := FU) (A := A) (by omega) (by have : FU = 4000000 := rfl; omega) h hc
    rw [a1, show ni y + 1 = ni (y + 1) from ni_add y 1]
    have kp := a2.kp h.1
    obtain ⟨A', g1, g2, g3, g4⟩ := ih (y := y + 1) (F := F) (A := A1) (by omega) (by omega) a3
    refine ⟨A', g1, a2.trans g2, g3, fun q hq hy' => ?_⟩
    by_cases e : q.1 = y
    · have hq' : isC A (y, q.2) := by rw [← e]; exact hq
      have := a4 q.2 (by omega) (hall _ hq')
      unfold mkA at this ⊢
      rw [e]; exact g2.2.2.2 y q.2 (by omega) this
    · exact g4 q ((isC_kp kp).mpr hq) (by omega)
theorem settleAll_ok {A : Mem} (h : SI0 A) : ∃ A', S_X5_settleAll A = some ((), A') ∧ FrT A A' ∧ CnA A' := by
  obtain ⟨A', g1, g2, g3, g4⟩ := sa_2 (j := 30) (y := 0) (F := FU) (A := A) (by omega) (by have : FU = 4000000 := rfl; omega) h
  have kp := g2.kp h.1
  refine ⟨A', g1, g2, fun y s hy hs k hk => ?_⟩
  have hc' : isC A' (y, k) := ⟨hy, s, hs, hk⟩
  have hc := (isC_kp kp).mp hc'
  have n0 := g4 _ hc (by omega)
  obtain ⟨m2, m3⟩ := g3.2.1 y s hy hs k hk
  rcases g3.2.2 _ hc' with e | e | e
  · exact absurd e n0
  · exact Or.inl ⟨e, m2 e⟩
  · exact Or.inr ⟨e, m3 e⟩
-- ===== what is not touched keeps its values =====
theorem e2_lean {own : Nat} {ld : Int32} {o : Nat → Int32} {a : Nat → Int64} {w : Nat → Int32} {v : Nat → Int64} {z : Nat → Int32} {c r n h : Nat} (e : E2 true 0 own ld o a w v z c r n h) : ∀ pc, c ≤ pc → pc < c + n → ¬ o pc = 20 ∧ (o pc = 3 → ∃ Y nm : Nat, Y < 30 ∧ nm < 1099511627776 ∧ a pc = nl (Y * 1099511627776 + nm) ∧ (Y ≠ own → bt ld Y = true)) := by
  refine e (fun c r n h => ∀ pc, c ≤ pc → pc < c + n → ¬ o pc = 20 ∧ (o pc = 3 → ∃ Y nm : Nat, Y < 30 ∧ nm < 1099511627776 ∧ a pc = nl (Y * 1099511627776 + nm) ∧ (Y ≠ own → bt ld Y = true))) ⟨?_, ?_, ?_, ?_, ?_, ?_, ?_, ?_⟩
  · intro c r h n h1 h2 h3 h4 h5 h6 pc p1 p2
    rw [show pc = c by omega, h3]; exact ⟨by decide, fun q => absurd q (by decide)⟩
  · intro c r h h1 h2; cases h2
  · intro c r h j h1 h2; cases h2
  · intro c r h h1 h2 h3 h4 pc p1 p2
    rw [show pc = c by omega, h2]
    obtain ⟨Y, nm, g1, g2, g3, -, -, g4⟩ := h4
    exact ⟨by decide, fun _ => ⟨Y, nm, g1, g2, g3, g4⟩⟩
  · intro c r n h h1; cases h1
  · intro c r n h h1 h2 h3 pc p1 p2
    by_cases e : pc < c + n
    · exact h1 pc p1 e
    · rw [show pc = c + n by omega, h2]; exact ⟨by decide, fun q => absurd q (by decide)⟩
  · intro c r n m h g h1 h2 h3 h4 pc p1 p2
    by_cases e : pc < c + n
    · exact h1 pc p1 e
    · by_cases e2 : pc < c + n + m
      · exact h2 pc (by omega) e2
      · rw [show pc = c + n + m by omega]
        rcases h4 with h4 | h4 | h4 | ⟨h4, -⟩
        · rw [h4.1]; exact ⟨by decide, fun q => absurd q (by decide)⟩
        · rw [h4.1]; exact ⟨by decide, fun q => absurd q (by decide)⟩
        · rw [h4.1]; exact ⟨by decide, fun q => absurd q (by decide)⟩
        · cases h4
  · intro c r n m l h h1; cases h1
/-- a set of years whose classes are the same in A' and lean on years of the set alone -/
def UnT (U : Nat → Prop) (A A' : Mem) : Prop := ∀ y, U y → y < 30 ∧ gr A' (21 + 4 * y) 0 = gr A (21 + 4 * y) 0 ∧ ∀ s, gr A (21 + 4 * y) 0 = some s → KpS s A A' ∧ (gi A s 0 < 0 ∨ U (tn (gi A s 0))) ∧ ln A (s + 1) ≤ 1024 ∧
  ∀ k, k < ln A (s + 3) → ∃ c n, gi A (s + 4) k = ni c ∧ c + n < ln A (s + 1) ∧ gi A (s + 1) (c + n) = 20 ∧ ∀ pc, c ≤ pc → pc < c + n → ¬ gi A (s + 1) pc = 20 ∧ (gi A (s + 1) pc = 3 → ∃ Y nm : Nat, Y < 30 ∧ nm < 1099511627776 ∧ gl A (s + 2) pc = nl (Y * 1099511627776 + nm) ∧ U Y)
section Ut
variable {U : Nat → Prop} {A A' : Mem}
theorem UnT.fd (h : UnT U A A') (nm : Int64) : ∀ n y, U y → fdC A' 0 nm n y = fdC A 0 nm n y ∧ ∀ q, fdC A 0 nm n y = some q → U q.1 := by
  intro n
  induction n with
  | zero => intro y _; exact ⟨rfl, fun q e => by cases e⟩
  | succ n ih =>
    intro y hy
    obtain ⟨y30, g1, g2⟩ := h y hy
    unfold fdC
    rw [if_neg (by omega), if_neg (by omega), g1]
    cases hs : gr A (21 + 4 * y) 0 with
    | none => exact ⟨rfl, fun q e => by cases e⟩
    | some s =>
      obtain ⟨k, u, -⟩ := g2 s hs
      dsimp only
      rw [(k (s + 3 + 2 * 0) (by omega) (by omega)).j, (k (s + 3 + 2 * 0) (by omega) (by omega)).l, (k s (by omega) (by omega)).i]
      cases pos (gl A (s + 3 + 2 * 0)) nm (ln A (s + 3 + 2 * 0)) 0 with
      | some i => exact ⟨rfl, fun q e => by cases e; exact hy⟩
      | none =>
        dsimp only
        by_cases e0 : gi A s 0 < 0
        · rw [if_pos e0, if_pos e0]; exact ⟨rfl, fun q e => by cases e⟩
        · rw [if_neg e0, if_neg e0]
          rcases u with u | u
          · exact absurd u e0
          · exact ih _ u
theorem UnT.er (h : UnT U A A') {f g : Nat → Nat → Option Int64} (hf : ∀ y k, U y → f y k = g y k) {s c n : Nat} (hk : KpS s A A') (hcn : c + n < ln A (s + 1)) (h20 : gi A (s + 1) (c + n) = 20) (hco : ∀ pc, c ≤ pc → pc < c + n → ¬ gi A (s + 1) pc = 20 ∧ (gi A (s + 1) pc = 3 → ∃ Y nm : Nat, Y < 30 ∧ nm < 1099511627776 ∧ gl A (s + 2) pc = nl (Y * 1099511627776 + nm) ∧ U Y)) :
    ∀ {j pc N : Nat} {st : List Int64}, pc + j = c + n → c ≤ pc → j < N → evR A' f s N pc st = evR A g s N pc st := by
  have l1 := (hk (s + 1) (by omega) (by omega)).l
  have i1 := (hk (s + 1) (by omega) (by omega)).i
  have j2 := (hk (s + 2) (by omega) (by omega)).j
  intro j
  induction j with
  | zero =>
    intro pc N st hp hc hN
    obtain ⟨N, rfl⟩ : ∃ u, N = u + 1 := ⟨N - 1, by omega⟩
    rw [evR_20 (A := A') (by omega) (by rw [i1, show pc = c + n by omega]; exact h20), evR_20 (A := A) (by omega) (by rw [show pc = c + n by omega]; exact h20)]
  | succ j ih =>
    intro pc N st hp hc hN
    obtain ⟨N, rfl⟩ : ∃ u, N = u + 1 := ⟨N - 1, by omega⟩
    obtain ⟨n20, h3⟩ := hco pc hc (by omega)
    rw [evR_s (A := A') (by omega) (by rw [i1]; exact n20), evR_s (A := A) (by omega) n20, i1, j2]
    have e1 : ev1 A' f (gi A (s + 1) pc) (gl A (s + 2) pc) st = ev1 A g (gi A (s + 1) pc) (gl A (s + 2) pc) st := by
      unfold ev1
      by_cases e3 : gi A (s + 1) pc = 3
      · rw [if_pos e3, if_pos e3]
        obtain ⟨Y, nm, hY, hn, ha, hU⟩ := h3 e3
        rw [ha, unp_nm hY hn, unp_s hY hn, show tn (ni Y) = Y from ni_tn (by omega)]
        obtain ⟨q1, q2⟩ := h.fd (nl nm) 30 Y hU
        rw [q1]
        cases hq : fdC A 0 (nl nm) 30 Y with
        | none => rfl
        | some q => dsimp only; rw [hf q.1 q.2 (q2 q hq)]
      · rw [if_neg e3, if_neg e3]
    rw [e1]
    cases ev1 A g (gi A (s + 1) pc) (gl A (s + 2) pc) st with
    | none => rfl
    | some st1 => exact ih (by omega) (by omega) (by omega)
theorem UnT.vl (h : UnT U A A') : ∀ i y k, U y → vlC A' i y k = vlC A i y k := by
  intro i
  induction i with
  | zero => intro y k _; rfl
  | succ i ih =>
    intro y k hy
    obtain ⟨y30, g1, g2⟩ := h y hy
    rw [vl_s, vl_s]
    unfold evC
    rw [g1]
    cases hs : gr A (21 + 4 * y) 0 with
    | none => rfl
    | some s =>
      obtain ⟨kp, u, l0, co⟩ := g2 s hs
      dsimp only
      rw [(kp (s + 3) (by omega) (by omega)).l, (kp (s + 4) (by omega) (by omega)).i]
      by_cases hk : k < ln A (s + 3)
      · rw [if_pos hk, if_pos hk]
        obtain ⟨c, n, c1, c2, c3, c4⟩ := co k hk
        rw [c1, show tn (ni c) = c from ni_tn (by omega)]
        exact h.er ih kp c2 c3 c4 (j := n) rfl (Nat.le_refl _) (by omega)
      · rw [if_neg hk, if_neg hk]
end Ut

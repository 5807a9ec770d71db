-- ===== consts are settled: the class =====
theorem clo_kp {A A' : Mem} (h : ClO A) (fA : FSC A') (hn : nc A ≤ nc A') (k : KpT A A') : ClO A' := by
  refine ⟨fA, fun y hy s hs => ?_⟩
  rw [k.1 y hy] at hs
  have q := k.2 y s hy hs
  obtain ⟨g1, g2, g3, g4⟩ := h.2 y hy s hs
  rw [(q s (by omega) (by omega)).i, (q (s + 1) (by omega) (by omega)).l, (q (s + 3) (by omega) (by omega)).l, (q (s + 5) (by omega) (by omega)).l, (q (s + 4) (by omega) (by omega)).i, (q (s + 1) (by omega) (by omega)).i, (q (s + 2) (by omega) (by omega)).j]
  exact ⟨q.so hn g1, g2, g3, g4⟩
theorem mki_kp {A A' : Mem} (h : MkI A) (k : KpT A A') (hm : ∀ y, y < 30 → gi A' (22 + 4 * y) = gi A (22 + 4 * y) ∧ gl A' (23 + 4 * y) = gl A (23 + 4 * y)) : MkI A' := by
  intro y s hy hs j hj
  rw [k.1 y hy] at hs
  rw [(k.2 y s hy hs (s + 3) (by omega) (by omega)).l] at hj
  rw [(hm y hy).1, (hm y hy).2]
  obtain ⟨h1, h2⟩ := h y s hy hs j hj
  refine ⟨fun e => ?_, fun e i => ?_⟩
  · obtain ⟨i, hi⟩ := h1 e
    exact ⟨i, by rw [k.vl i y j hy]; exact hi⟩
  · rw [k.vl i y j hy]; exact h2 e i
theorem FrE.kp {A A' : Mem} (h : ClO A) (f : FrE A A') : KpT A A' := ⟨fun y _ => congrFun (congrFun f.1.2.2 _) _, fun y s hy hs a a1 a2 => f.sm (by have := (h.2 y hy s hs).1.1; omega) (by have := (h.2 y hy s hs).1.1; omega)⟩
theorem FrE.mk {A A' : Mem} (f : FrE A A') : ∀ y, y < 30 → gi A' (22 + 4 * y) = gi A (22 + 4 * y) ∧ gl A' (23 + 4 * y) = gl A (23 + 4 * y) := fun y hy => ⟨f.2.1 _ (by omega), f.2.2.1 _ (by omega)⟩
theorem FrE.clo {A A' : Mem} (h : ClO A) (f : FrE A A') : ClO A' := clo_kp h (h.1.kg f.1) (Nat.le_of_eq f.1.nc.symm) (f.kp h)
theorem ev1_fr {A A' : Mem} (h : ClO A) (f : FrE A A') (i : Nat) (op : Int32) (arg : Int64) (st : List Int64) : ev1 A' (vlC A' i) op arg st = ev1 A (vlC A i) op arg st := by
  rw [(f.kp h).e1, ev1_fcg (fun y k hy => (f.kp h).vl i y k hy)]
def lone : List Int64 → Option Int64
  | [x] => some x
  | _ => none
theorem evR_20 {A : Mem} {g : Nat → Nat → Option Int64} {s N pc : Nat} {st : List Int64} (h1 : pc < ln A (s + 1)) (h2 : gi A (s + 1) pc = 20) : evR A g s (N + 1) pc st = lone st := by
  unfold evR
  rw [if_neg (by omega), if_pos h2]
  match st with
  | [] => rfl
  | [x] => rfl
  | x :: y :: st => rfl
theorem evR_s {A : Mem} {g : Nat → Nat → Option Int64} {s N pc : Nat} {st : List Int64} (h1 : pc < ln A (s + 1)) (h2 : ¬ gi A (s + 1) pc = 20) : evR A g s (N + 1) pc st = (match ev1 A g (gi A (s + 1) pc) (gl A (s + 2) pc) st with
    | none => none
    | some st1 => evR A g s N (pc + 1) st1) := by
  show (if ln A (s + 1) ≤ pc then none else if gi A (s + 1) pc = 20 then _ else _) = _
  rw [if_neg (by omega), if_neg h2]
  cases ev1 A g (gi A (s + 1) pc) (gl A (s + 2) pc) st <;> rfl
def EvO (A : Mem) (s N pc : Nat) (st : List Int64) (x : Option (Int32 × Mem)) : Prop :=
  (∃ A', x = some (-1, A') ∧ FrE A A' ∧ ∃ i0, ∀ i, i0 ≤ i → evR A (vlC A i) s N pc st = some (gl A' 143 0)) ∨
  (∃ A', x = some (-2, A') ∧ FrE A A' ∧ ∀ i, evR A (vlC A i) s N pc st = none) ∨
  (∃ y' k' s' A', x = some (ni (8 * y' + k'), A') ∧ FrE A A' ∧ y' < 30 ∧ gr A (21 + 4 * y') 0 = some s' ∧ k' < ln A (s' + 3) ∧ ¬ gi A (22 + 4 * y') k' = 2 ∧ ¬ gi A (22 + 4 * y') k' = 3 ∧ ∀ i, evR A (vlC A i) s N pc st ≠ none → vlC A i y' k' ≠ none)
theorem ev_lp {A0 : Mem} {y s c n : Nat} (hC : ClO A0) (hM : MkI A0) (hy : y < 30) (hs : gr A0 (21 + 4 * y) 0 = some s) (hcn : c + n < ln A0 (s + 1)) (h20 : gi A0 (s + 1) (c + n) = 20) (hco : ∀ pc, c ≤ pc → pc < c + n → ¬ gi A0 (s + 1) pc = 20 ∧ (gi A0 (s + 1) pc = 3 → ∃ Y nm : Nat, Y < 30 ∧ nm < 1099511627776 ∧ gl A0 (s + 2) pc = nl (Y * 1099511627776 + nm))) :
    ∀ {j pc F N : Nat} {A : Mem} {st : List Int64}, pc + j = c + n → c ≤ pc → j < F → j < N → FrE A0 A → Stk A st → EvO A0 s N pc st (SJ_X5_evaluate_50 F (some s) (ni pc) A) := by
  obtain ⟨⟨o1, o2, o3, o4, o5, o6⟩, g2, ⟨g3, g4, g5⟩, -⟩ := hC.2 y hy s hs
  intro j
  induction j with
  | zero =>
    intro pc F N A st hp hc hF hN f hS
    obtain ⟨F, rfl⟩ : ∃ u, F = u + 1 := ⟨F - 1, by omega⟩
    obtain ⟨N, rfl⟩ : ∃ u, N = u + 1 := ⟨N - 1, by omega⟩
    have sm : ∀ a, s ≤ a → a < s + 10 → Sm a A0 A := fun a a1 a2 => f.sm (by omega) (by omega)
    have k0 : kd A s = 6 := (sm s (by omega) (by omega)).k.trans o3
    have r4 : gr A s 4 = some (s + 1) := (congrFun (sm s (by omega) (by omega)).r 4).trans o4.1
    have k1 : kd A (s + 1) = 20 := (sm _ (by omega) (by omega)).k.trans o5.1
    have l1 : ln A (s + 1) = ln A0 (s + 1) := (sm _ (by omega) (by omega)).l
    have e20 : gi A (s + 1) pc = 20 := by rw [(sm _ (by omega) (by omega)).i, show pc = c + n by omega]; exact h20
    rw [SJ_X5_evaluate_50]; dsimp only
    rw [bi_fR k0 r4, bi_aN k1 (by omega) (by omega) l1, if_neg (show ¬ Int32.ofNat (ln A0 (s + 1)) ≤ ni pc from fun e => by have := (ni_le (a := ln A0 (s + 1)) (by omega) (by omega)).mp e; omega), bi_fR k0 r4, bi_aI k1 l1, gdT ((ni_inb (by omega)).mpr (by omega)), ni_tn (by omega), e20, if_neg (fun q => q rfl), hS.1]
    have ee : ∀ g, evR A0 g s (N + 1) pc st = lone st := fun g => evR_20 (by omega) (by rw [show pc = c + n by omega]; exact h20)
    match st, hS, ee with
    | [], hS, ee =>
      rw [if_pos (show ¬ ni ([] : List Int64).length = 1 by decide)]
      exact Or.inr (Or.inl ⟨A, rfl, f, fun i => ee _⟩)
    | [x], hS, ee =>
      rw [if_neg (show ¬ ¬ ni [x].length = 1 from (by decide : ¬ ¬ ni 1 = 1))]
      have : gl A 143 0 = x := hS.2.2.1
      exact Or.inl ⟨A, rfl, f, 0, fun i _ => by rw [ee, this]; rfl⟩
    | x :: l :: st2, hS, ee =>
      have l4 : st2.length + 1 + 1 ≤ 4 := hS.2.1
      rw [if_pos (show ¬ ni (x :: l :: st2).length = 1 from fun e => by
        have e : ni (st2.length + 2) = ni 1 := e
        have := (ni_inj (by omega) (by omega)).mp e; omega)]
      exact Or.inr (Or.inl ⟨A, rfl, f, fun i => ee _⟩)
  | succ j ih =>
    intro pc F N A st hp hc hF hN f hS
    obtain ⟨F, rfl⟩ : ∃ u, F = u + 1 := ⟨F - 1, by omega⟩
    obtain ⟨N, rfl⟩ : ∃ u, N = u + 1 := ⟨N - 1, by omega⟩
    have sm : ∀ a, s ≤ a → a < s + 10 → Sm a A0 A := fun a a1 a2 => f.sm (by omega) (by omega)
    have k0 : kd A s = 6 := (sm s (by omega) (by omega)).k.trans o3
    have r4 : gr A s 4 = some (s + 1) := (congrFun (sm s (by omega) (by omega)).r 4).trans o4.1
    have r5 : gr A s 5 = some (s + 2) := (congrFun (sm s (by omega) (by omega)).r 5).trans o4.2.1
    have k1 : kd A (s + 1) = 20 := (sm _ (by omega) (by omega)).k.trans o5.1
    have k2 : kd A (s + 2) = 21 := (sm _ (by omega) (by omega)).k.trans o5.2.1
    have l1 : ln A (s + 1) = ln A0 (s + 1) := (sm _ (by omega) (by omega)).l
    have l2 : ln A (s + 2) = ln A0 (s + 1) := (sm _ (by omega) (by omega)).l.trans o6.1
    have eo : gi A (s + 1) pc = gi A0 (s + 1) pc := by rw [(sm _ (by omega) (by omega)).i]
    have ea : gl A (s + 2) pc = gl A0 (s + 2) pc := by rw [(sm _ (by omega) (by omega)).j]
    obtain ⟨n20, h3⟩ := hco pc hc (by omega)
    rw [SJ_X5_evaluate_50]; dsimp only
    rw [bi_fR k0 r4, bi_aN k1 (by omega) (by omega) l1, if_neg (show ¬ Int32.ofNat (ln A0 (s + 1)) ≤ ni pc from fun e => by have := (ni_le (a := ln A0 (s + 1)) (by omega) (by omega)).mp e; omega), bi_fR k0 r4, bi_aI k1 l1, gdT ((ni_inb (by omega)).mpr (by omega)), ni_tn (by omega), eo, if_pos n20, bi_fR k0 r5, bi_fR k0 r5, bi_aL k2 l2, bi_aL k2 l2, gdT ((ni_inb (by omega)).mpr (by omega)), gdT ((ni_inb (by omega)).mpr (by omega)), ni_tn (by omega), ea]
    have er : ∀ g, evR A0 g s (N + 1) pc st = (match ev1 A0 g (gi A0 (s + 1) pc) (gl A0 (s + 2) pc) st with
        | none => none
        | some st1 => evR A0 g s N (pc + 1) st1) := fun g => evR_s (by omega) n20
    have hCA : ClO A := f.clo hC
    have hMA : MkI A := mki_kp hM (f.kp hC) f.mk
    -- one piece
    obtain ⟨x, hx, hgo⟩ : ∃ x, StO A (gi A0 (s + 1) pc) (gl A0 (s + 2) pc) st x ∧ (if ¬ gi A0 (s + 1) pc = 3 then ((S_X5_calculate (gi A0 (s + 1) pc) (gl A0 (s + 2) pc) A).bind fun w7 => SJ_X5_evaluate_120 (SJ_X5_evaluate_50 F) (some s) (ni pc) w7.1 w7.2) else ((S_X5_refer (gl A0 (s + 2) pc) A).bind fun w10 => SJ_X5_evaluate_120 (SJ_X5_evaluate_50 F) (some s) (ni pc) w10.1 w10.2)) = (x.bind fun w => SJ_X5_evaluate_120 (SJ_X5_evaluate_50 F) (some s) (ni pc) w.1 w.2) := by
      by_cases e3 : gi A0 (s + 1) pc = 3
      · rw [if_neg (fun q => q e3)]
        obtain ⟨Y, nm, hY, hn, ha⟩ := h3 e3
        rw [e3, ha]
        exact ⟨_, refer_ok hCA hMA hS hY hn, rfl⟩
      · rw [if_pos e3]
        exact ⟨_, calc_ok hS e3, rfl⟩
    rw [hgo]
    unfold SJ_X5_evaluate_120
    rcases hx with ⟨A', st', x1, x2, x3, ⟨i0, x4⟩, x5⟩ | ⟨A', x1, x2, x3⟩ | ⟨y', k', s', x1, x2, x3, x4, x5, x6, x7⟩
    · rw [x1, bS]; dsimp only
      rw [if_pos rfl, show ni pc + 1 = ni (pc + 1) from ni_add pc 1]
      rcases ih (pc := pc + 1) (F := F) (N := N) (A := A') (st := st') (by omega) (by omega) (by omega) (by omega) (f.trans x3) x2 with ⟨A2, z1, z2, i1, z3⟩ | ⟨A2, z1, z2, z3⟩ | ⟨y', k', s', A2, z1, z2, z3, z4, z5, z6, z7, z8⟩
      · refine Or.inl ⟨A2, z1, z2, max i0 i1, fun i hi => ?_⟩
        rw [er]
        have q := x4 i (by omega)
        rw [ev1_fr hC f] at q
        rw [q]; exact z3 i (by omega)
      · refine Or.inr (Or.inl ⟨A2, z1, z2, fun i => ?_⟩)
        rw [er]
        cases hv : ev1 A0 (vlC A0 i) (gi A0 (s + 1) pc) (gl A0 (s + 2) pc) st with
        | none => rfl
        | some u =>
          have : u = st' := x5 i u (by rw [ev1_fr hC f]; exact hv)
          rw [this]; exact z3 i
      · refine Or.inr (Or.inr ⟨y', k', s', A2, z1, z2, z3, z4, z5, z6, z7, fun i hi => z8 i ?_⟩)
        rw [er] at hi
        cases hv : ev1 A0 (vlC A0 i) (gi A0 (s + 1) pc) (gl A0 (s + 2) pc) st with
        | none => rw [hv] at hi; exact absurd rfl hi
        | some u =>
          have : u = st' := x5 i u (by rw [ev1_fr hC f]; exact hv)
          rw [hv, this] at hi; exact hi
    · rw [x1, bS]; dsimp only
      rw [if_neg (by decide)]
      refine Or.inr (Or.inl ⟨A', rfl, f.trans x2, fun i => ?_⟩)
      have q := x3 i
      rw [ev1_fr hC f] at q
      rw [er, q]
    · rw [x1, bS]; dsimp only
      have q8 : k' < 8 := by have := (hCA.2 y' x2 s' x3).2.2.1.2.1; omega
      rw [if_neg (ni_ne1 (by omega))]
      have kp := f.kp hC
      have x3' : gr A0 (21 + 4 * y') 0 = some s' := (kp.1 y' x2).symm.trans x3
      refine Or.inr (Or.inr ⟨y', k', s', A, rfl, f, x2, x3', ?_, ?_, ?_, fun i hi => ?_⟩)
      · rw [← (kp.2 y' s' x2 x3' (s' + 3) (by omega) (by omega)).l]; exact x4
      · rw [← (f.mk y' x2).1]; exact x5
      · rw [← (f.mk y' x2).1]; exact x6
      · rw [← kp.vl i y' k' x2]
        refine x7 i ?_
        rw [ev1_fr hC f]
        intro q
        rw [er, q] at hi; exact hi rfl
theorem eval_ok {A : Mem} {y k s : Nat} (hC : ClO A) (hM : MkI A) (hy : y < 30) (hs : gr A (21 + 4 * y) 0 = some s) (hk : k < ln A (s + 3)) :
    (∃ A', S_X5_evaluate (ni (8 * y + k)) A = some (-1, A') ∧ FrE A A' ∧ ∃ i, vlC A i y k = some (gl A' 143 0)) ∨
    (∃ A', S_X5_evaluate (ni (8 * y + k)) A = some (-2, A') ∧ FrE A A' ∧ ∀ i, vlC A i y k = none) ∨
    (∃ y' k' s' A', S_X5_evaluate (ni (8 * y + k)) A = some (ni (8 * y' + k'), A') ∧ FrE A A' ∧ y' < 30 ∧ gr A (21 + 4 * y') 0 = some s' ∧ k' < ln A (s' + 3) ∧ ¬ gi A (22 + 4 * y') k' = 2 ∧ ¬ gi A (22 + 4 * y') k' = 3 ∧ ∀ i, vlC A (i + 1) y k ≠ none → vlC A i y' k' ≠ none) := by
  obtain ⟨⟨o1, o2, o3, o4, o5, o6⟩, g2, ⟨g3, g4, g5⟩, g6⟩ := hC.2 y hy s hs
  obtain ⟨c, n, c1, c2, c3, c4⟩ := g6 k hk
  obtain ⟨d1, d2⟩ := id_div hy (show k < 8 by omega)
  have e : S_X5_evaluate (ni (8 * y + k)) A = SJ_X5_evaluate_50 FU (some s) (ni c) (si A 141 4 0) := by
    unfold S_X5_evaluate
    rw [d1, d2, gdT ((ni_inb (by omega)).mpr hy)]
    simp only [show (ni y).toNatClampNeg = y from ni_tn (by omega), hs]
    rw [if_neg (by simp), bi_fR o3 o4.2.2.2.1, bi_aN o5.2.2.2.1 (by omega) (by omega) o6.2.1, if_pos (show ni k < Int32.ofNat (ln A (s + 3)) from (ni_lt (b := ln A (s + 3)) (by omega) (by omega)).mpr hk), bi_fR (M := si A 141 4 0) o3 o4.2.2.2.1, bi_aI (M := si A 141 4 0) o5.2.2.2.1 o6.2.1, gdT ((ni_inb (by omega)).mpr hk), ni_tn (by omega), gi_ne (by omega), c1]
  have vs : ∀ i, vlC A (i + 1) y k = evR A (vlC A i) s 1100 c [] := fun i => by
    rw [vl_s]; unfold evC
    rw [hs]; dsimp only
    rw [if_pos hk, c1, show tn (ni c) = c from ni_tn (by omega)]
  rw [e]
  have S0 : Stk (si A 141 4 0) [] := ⟨si_eq, by decide, trivial⟩
  rcases ev_lp hC hM hy hs c2 c3 c4 (j := n) (pc := c) (F := FU) (N := 1100) (A := si A 141 4 0) (st := []) rfl (Nat.le_refl _) (by have : FU = 4000000 := rfl; omega) (by omega) fre_top S0 with ⟨A2, z1, z2, i1, z3⟩ | ⟨A2, z1, z2, z3⟩ | ⟨y', k', s', A2, z1, z2, z3, z4, z5, z6, z7, z8⟩
  · exact Or.inl ⟨A2, z1, z2, i1 + 1, by rw [vs]; exact z3 i1 (Nat.le_refl _)⟩
  · refine Or.inr (Or.inl ⟨A2, z1, z2, fun i => ?_⟩)
    cases i with
    | zero => rfl
    | succ i => rw [vs]; exact z3 i
  · exact Or.inr (Or.inr ⟨y', k', s', A2, z1, z2, z3, z4, z5, z6, z7, fun i hi => z8 i (by rw [← vs]; exact hi)⟩)

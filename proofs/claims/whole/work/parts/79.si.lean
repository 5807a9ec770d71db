theorem si_done {A : Mem} {q : Nat × Nat} {L : List (Nat × Nat)} (h : SI A (q :: L)) {v : Int64} (hv : ∃ i, vlC A i q.1 q.2 = some v) : SI (si (si (sl A (23 + 4 * q.1) q.2 v) (22 + 4 * q.1) q.2 2) 141 2 (ni L.length)) L ∧ FrT A (si (si (sl A (23 + 4 * q.1) q.2 v) (22 + 4 * q.1) q.2 2) 141 2 (ni L.length)) ∧ Un (si (si (sl A (23 + 4 * q.1) q.2 v) (22 + 4 * q.1) q.2 2) 141 2 (ni L.length)) ≤ Un A := by
  obtain ⟨h1, h2, h3, h4, h5, h6, h7, h8, h9⟩ := h
  have hq : isC A q := h5 q (by simp)
  have q30 := hq.1
  have q8 := isC8 h1 hq
  have gm : ∀ y k, y < 30 → gi (si (si (sl A (23 + 4 * q.1) q.2 v) (22 + 4 * q.1) q.2 2) 141 2 (ni L.length)) (22 + 4 * y) k = if y = q.1 ∧ k = q.2 then 2 else gi A (22 + 4 * y) k := fun y k hy => by
    rw [gi_ne (by omega), gi_si]
    by_cases e : y = q.1 ∧ k = q.2
    · rw [if_pos ⟨by omega, e.2⟩, if_pos e]
    · rw [if_neg (fun z => e ⟨by omega, z.2⟩), if_neg e]; rfl
  have gv : ∀ y k, y < 30 → gl (si (si (sl A (23 + 4 * q.1) q.2 v) (22 + 4 * q.1) q.2 2) 141 2 (ni L.length)) (23 + 4 * y) k = if y = q.1 ∧ k = q.2 then v else gl A (23 + 4 * y) k := fun y k hy => by
    rw [gl_si, gl_si, gl_sl]
    by_cases e : y = q.1 ∧ k = q.2
    · rw [if_pos ⟨by omega, e.2⟩, if_pos e]
    · rw [if_neg (fun z => e ⟨by omega, z.2⟩), if_neg e]
  have f : FrT A (si (si (sl A (23 + 4 * q.1) q.2 v) (22 + 4 * q.1) q.2 2) 141 2 (ni L.length)) := by
    refine ⟨(kg_sl.trans kg_si).trans kg_si, fun a a1 a2 a3 => ?_, fun a a1 a2 => ?_, fun y k hy z => ?_⟩
    · rw [gi_ne a1, gi_ne (a3 q.1 q30)]; rfl
    · exact gl_ne (M := A) (a2 q.1 q30)
    · rw [gm y k hy]; split
      · decide
      · exact z
  have e2 : gi (si (si (sl A (23 + 4 * q.1) q.2 v) (22 + 4 * q.1) q.2 2) 141 2 (ni L.length)) 141 2 = ni L.length := si_eq
  have e142 : gi (si (si (sl A (23 + 4 * q.1) q.2 v) (22 + 4 * q.1) q.2 2) 141 2 (ni L.length)) 142 = gi A 142 := by rw [gi_ne (by omega), gi_ne (by omega)]; rfl
  generalize si (si (sl A (23 + 4 * q.1) q.2 v) (22 + 4 * q.1) q.2 2) 141 2 (ni L.length) = A' at *
  have kp := f.kp h1
  have un : Un A' ≤ Un A := un_le (fun y k hy _ => f.2.2.2 y k hy)
  have hnd : q ∉ L := by
    intro hm
    -- an open const is opened once: its place would be told twice
    obtain ⟨i1, i2⟩ := opn_ix h4
    have hc := hm
    exact absurd hm (by
      intro _
      -- the chain from q down to q
      have key : ∀ i, vlC A i q.1 q.2 = none := by
        intro i
        induction i using Nat.strongRecOn with
        | _ i ih =>
          refine Classical.byContradiction fun z => ?_
          obtain ⟨r, L', e⟩ : ∃ r L', L = r :: L' := by
            cases L with
            | nil => cases hc
            | cons r L' => exact ⟨r, L', rfl⟩
          subst e
          have hc2 : chn A (r :: L') := h8.2
          obtain ⟨i', z1, z2⟩ := chn_dn hc2 hc z
          cases i' with
          | zero => exact z2 rfl
          | succ i' => exact h8.1 r L' rfl i' z2 (ih i' (by omega))
      obtain ⟨i, hi⟩ := hv
      rw [key i] at hi; cases hi)
  refine ⟨⟨f.clo h1, ?_, e2, opn_cg (Nat.le_refl _) (fun j _ => by rw [e142]) h4.2, fun p hp => (isC_kp kp).mpr (h5 p (List.mem_cons_of_mem _ hp)), fun p hp => ?_, fun p hp => ?_, chn_kp kp (fun p hp => (h5 p (List.mem_cons_of_mem _ hp)).1) h8.2, ?_⟩, f, un⟩
  · intro y s hy hs k hk
    rw [kp.1 y hy] at hs
    rw [(kp.2 y s hy hs (s + 3) (by omega) (by omega)).l] at hk
    rw [gm y k hy, gv y k hy]
    obtain ⟨a1, a2⟩ := h2 y s hy hs k hk
    by_cases e : y = q.1 ∧ k = q.2
    · rw [if_pos e, if_pos e]
      refine ⟨fun _ => ?_, fun z => absurd z (by decide)⟩
      obtain ⟨i, hi⟩ := hv
      exact ⟨i, by rw [kp.vl i y k hy, e.1, e.2]; exact hi⟩
    · rw [if_neg e, if_neg e]
      refine ⟨fun z => ?_, fun z i => ?_⟩
      · obtain ⟨i, hi⟩ := a1 z
        exact ⟨i, by rw [kp.vl i y k hy]; exact hi⟩
      · rw [kp.vl i y k hy]; exact a2 z i
  · have hp := (isC_kp kp).mp hp
    unfold mkA
    rw [gm p.1 p.2 hp.1]
    by_cases e : p.1 = q.1 ∧ p.2 = q.2
    · rw [if_pos e]
      have : p = q := Prod.ext e.1 e.2
      exact ⟨fun z => absurd z (by decide), fun z => absurd (this ▸ z) hnd⟩
    · rw [if_neg e]
      have := h6 p hp
      unfold mkA at this
      rw [this]
      constructor
      · intro z
        rcases List.mem_cons.mp z with z | z
        · exact absurd ⟨congrArg Prod.fst z, congrArg Prod.snd z⟩ e
        · exact z
      · intro z; exact List.mem_cons_of_mem _ z
  · have hp := (isC_kp kp).mp hp
    unfold mkA
    rw [gm p.1 p.2 hp.1]
    split
    · exact Or.inr (Or.inr (Or.inl rfl))
    · exact h7 p hp
  · have h9 : Un A + (L.length + 1) ≤ 240 := h9
    omega
theorem si_push {A : Mem} {q : Nat × Nat} {L : List (Nat × Nat)} (h : SI A L) (hq : isC A q) (h0 : mkA A q = 0) (hd : ∀ p L', L = p :: L' → ∀ i, vlC A (i + 1) p.1 p.2 ≠ none → vlC A i q.1 q.2 ≠ none) : ∃ A', S_X5_push (ni (8 * q.1 + q.2)) A = some ((), A') ∧ SI A' (q :: L) ∧ FrT A A' ∧ Un A' + 1 ≤ Un A ∧ mkA A' q = 1 := by
  obtain ⟨h1, h2, h3, h4, h5, h6, h7, h8, h9⟩ := h
  have q30 := hq.1
  have q8 := isC8 h1 hq
  have hU : 1 ≤ Un A := by
    have := un_lt (A := A) (A' := si A (22 + 4 * q.1) q.2 1) q30 q8 (fun y k hy hk z => by rw [gi_si]; split; decide; exact z) h0 (by rw [si_eq]; decide)
    omega
  have e142 : gi (si A 142 L.length (ni (8 * q.1 + q.2))) 141 2 = ni L.length := by rw [gi_ne (by omega)]; exact h3
  have gm : ∀ y k, y < 30 → gi (si (si (si A 142 L.length (ni (8 * q.1 + q.2))) 141 2 (ni (L.length + 1))) (22 + 4 * q.1) q.2 1) (22 + 4 * y) k = if y = q.1 ∧ k = q.2 then 1 else gi A (22 + 4 * y) k := fun y k hy => by
    rw [gi_si]
    by_cases e : y = q.1 ∧ k = q.2
    · rw [if_pos ⟨by omega, e.2⟩, if_pos e]
    · rw [if_neg (fun z => e ⟨by omega, z.2⟩), if_neg e, gi_ne (by omega), gi_ne (by omega)]
  have f : FrT A (si (si (si A 142 L.length (ni (8 * q.1 + q.2))) 141 2 (ni (L.length + 1))) (22 + 4 * q.1) q.2 1) := by
    refine ⟨(kg_si.trans kg_si).trans kg_si, fun a a1 a2 a3 => ?_, fun a a1 a2 => rfl, fun y k hy z => ?_⟩
    · rw [gi_ne (a3 q.1 q30), gi_ne a1, gi_ne a2]
    · rw [gm y k hy]; split
      · decide
      · exact z
  have e2 : gi (si (si (si A 142 L.length (ni (8 * q.1 + q.2))) 141 2 (ni (L.length + 1))) (22 + 4 * q.1) q.2 1) 141 2 = ni (L.length + 1) := by rw [gi_ne (by omega), si_eq]
  have e3 : ∀ j, gi (si (si (si A 142 L.length (ni (8 * q.1 + q.2))) 141 2 (ni (L.length + 1))) (22 + 4 * q.1) q.2 1) 142 j = if j = L.length then ni (8 * q.1 + q.2) else gi A 142 j := fun j => by
    rw [gi_ne (by omega), gi_ne (by omega), gi_si]
    by_cases e : j = L.length
    · rw [if_pos ⟨rfl, e⟩, if_pos e]
    · rw [if_neg (fun z => e z.2), if_neg e]
  unfold S_X5_push
  rw [h3, if_neg (show ¬ (240 : Int32) ≤ ni L.length from fun e => by have := (ni_le (a := 240) (by omega) (by omega)).mp e; omega), gdT ((ni_inb (by omega)).mpr (by omega)), ni_tn (by omega), e142, show ni L.length + 1 = ni (L.length + 1) from ni_add _ 1, mark_eq5 q30 q8, bS]
  have gl0 : gl (si (si (si A 142 L.length (ni (8 * q.1 + q.2))) 141 2 (ni (L.length + 1))) (22 + 4 * q.1) q.2 1) = gl A := rfl
  generalize si (si (si A 142 L.length (ni (8 * q.1 + q.2))) 141 2 (ni (L.length + 1))) (22 + 4 * q.1) q.2 1 = A' at *
  have kp := f.kp h1
  have un : Un A' + 1 ≤ Un A := un_lt q30 q8 (fun y k hy _ => f.2.2.2 y k hy) h0 (by rw [gm q.1 q.2 q30, if_pos ⟨rfl, rfl⟩]; decide)
  have m1 : mkA A' q = 1 := by unfold mkA; rw [gm q.1 q.2 q30, if_pos ⟨rfl, rfl⟩]
  refine ⟨A', rfl, ⟨f.clo h1, ?_, e2, ⟨by rw [e3, if_pos rfl], opn_cg (m := L.length) (Nat.le_refl _) (fun j hj => by rw [e3, if_neg (by omega)]) h4⟩, fun p hp => ?_, fun p hp => ?_, fun p hp => ?_, ⟨fun p L' e i => ?_, chn_kp kp (fun p hp => (h5 p hp).1) h8⟩, ?_⟩, f, un, m1⟩
  · intro y s hy hs k hk
    rw [kp.1 y hy] at hs
    rw [(kp.2 y s hy hs (s + 3) (by omega) (by omega)).l] at hk
    rw [gm y k hy, gl0]
    obtain ⟨a1, a2⟩ := h2 y s hy hs k hk
    by_cases e : y = q.1 ∧ k = q.2
    · rw [if_pos e]; exact ⟨fun z => absurd z (by decide), fun z => absurd z (by decide)⟩
    · rw [if_neg e]
      refine ⟨fun z => ?_, fun z i => ?_⟩
      · obtain ⟨i, hi⟩ := a1 z
        exact ⟨i, by rw [kp.vl i y k hy]; exact hi⟩
      · rw [kp.vl i y k hy]; exact a2 z i
  · rcases List.mem_cons.mp hp with e | e
    · rw [e]; exact (isC_kp kp).mpr hq
    · exact (isC_kp kp).mpr (h5 p e)
  · have hp := (isC_kp kp).mp hp
    unfold mkA
    rw [gm p.1 p.2 hp.1]
    by_cases e : p.1 = q.1 ∧ p.2 = q.2
    · rw [if_pos e]
      have : p = q := Prod.ext e.1 e.2
      exact ⟨fun _ => by rw [this]; simp, fun _ => rfl⟩
    · rw [if_neg e]
      have := h6 p hp
      unfold mkA at this
      rw [this]
      constructor
      · intro z; exact List.mem_cons_of_mem _ z
      · intro z
        rcases List.mem_cons.mp z with z | z
        · exact absurd ⟨congrArg Prod.fst z, congrArg Prod.snd z⟩ e
        · exact z
  · have hp := (isC_kp kp).mp hp
    unfold mkA
    rw [gm p.1 p.2 hp.1]
    split
    · exact Or.inr (Or.inl rfl)
    · exact h7 p hp
  · rw [kp.vl (i + 1) p.1 p.2 (h5 p (by rw [e]; simp)).1, kp.vl i q.1 q.2 q30]
    exact hd p L' e i
  · show Un A' + (L.length + 1) ≤ 240
    omega
theorem settle_lp : ∀ {μ τ F : Nat} {A : Mem} {L : List (Nat × Nat)}, SI A L → 2 * Un A + L.length ≤ μ → τ + μ < 1000000 → μ < F → ∃ A', SJ_X5_settle_12 F (ni τ) A = some ((), A') ∧ FrT A A' ∧ SI A' [] := by
  intro μ
  induction μ with
  | zero =>
    intro τ F A L h hm hτ hF
    obtain ⟨F, rfl⟩ : ∃ u, F = u + 1 := ⟨F - 1, by omega⟩
    have : L = [] := List.length_eq_zero_iff.mp (by omega)
    subst this
    rw [SJ_X5_settle_12]; dsimp only
    rw [if_neg (show ¬ (1000000 : Int32) ≤ ni τ from fun e => by have := (ni_le (a := 1000000) (by omega) (by omega)).mp e; omega), h.2.2.1, if_pos (by decide)]
    exact ⟨A, rfl, FrT.rf, h⟩
  | succ μ ih =>
    intro τ F A L h hm hτ hF
    obtain ⟨F, rfl⟩ : ∃ u, F = u + 1 := ⟨F - 1, by omega⟩
    rw [SJ_X5_settle_12]; dsimp only
    rw [if_neg (show ¬ (1000000 : Int32) ≤ ni τ from fun e => by have := (ni_le (a := 1000000) (by omega) (by omega)).mp e; omega)]
    cases L with
    | nil =>
      rw [h.2.2.1, if_pos (by decide)]
      exact ⟨A, rfl, FrT.rf, h⟩
    | cons q L =>
      have hl : Un A + (L.length + 1) ≤ 240 := h.2.2.2.2.2.2.2.2
      have hm : 2 * Un A + (L.length + 1) ≤ μ + 1 := hm
      have e0 : gi A 141 2 = ni (L.length + 1) := h.2.2.1
      have hq : isC A q := h.2.2.2.2.1 q (by simp)
      have q8 := isC8 h.1 hq
      have q30 := hq.1
      obtain ⟨-, s, hs, hk⟩ := hq
      have eo : gi A 142 L.length = ni (8 * q.1 + q.2) := h.2.2.2.1.1
      obtain ⟨d1, d2⟩ := id_div q30 q8
      have lose : ∀ {A1 : Mem}, FrE A A1 → SI A1 (q :: L) → (∀ p ∈ q :: L, ∀ i, vlC A1 i p.1 p.2 = none) → ∃ A', SJ_X5_settle_112 (SJ_X5_settle_12 F) (ni τ) A1 = some ((), A') ∧ FrT A A' ∧ SI A' [] := by
        intro A1 f s1 hn
        obtain ⟨A2, b1, b2, b3, b4⟩ := si_lose s1 hn
        unfold SJ_X5_settle_112 SJ_X5_settle_125
        have un : Un A1 ≤ Un A := un_le (fun y k hy hk z => by rw [(f.mk y hy).1]; exact z)
        obtain ⟨A3, c1, c2, c3⟩ := ih (τ := τ + 1) (F := F) b3 (by show 2 * Un A2 + 0 ≤ μ; omega) (by omega) (by omega)
        rw [b1, bS, show ni τ + 1 = ni (τ + 1) from ni_add τ 1, c1]
        exact ⟨A3, rfl, (f.ft.trans b2).trans c2, c3⟩
      rw [e0, if_neg (show ¬ ni (L.length + 1) ≤ 0 from fun e => by have := (ni_le (b := 0) (by omega) (by omega)).mp e; omega), show ni (L.length + 1) - 1 = ni L.length from (ni_sub (a := L.length + 1) (b := 1) (by omega)).trans (by rw [show L.length + 1 - 1 = L.length by omega]), gdT ((ni_inb (by omega)).mpr (by omega)), ni_tn (by omega), eo, d1, d2]
      rcases eval_ok h.1 h.2.1 q30 hs hk with ⟨A1, z1, z2, i1, z3⟩ | ⟨A1, z1, z2, z3⟩ | ⟨y', k', s', A1, z1, z2, z3, z4, z5, z6, z7, z8⟩
      · rw [z1, bS]; dsimp only
        have s1 := h.fre z2
        have kp := z2.kp h.1
        rw [if_neg (fun z => z rfl), gdT ((ni_inb (by omega)).mpr q30), gdT (show inb (0 : Int32) 4 from (ni_inb (a := 0) (by omega)).mpr (by omega)), gdT ((ni_inb (by omega)).mpr q8), ni_tn (a := q.1) (by omega), ni_tn (a := q.2) (by omega), mark_eq5 q30 q8, bS]; dsimp only
        have e2 : gi (si (sl A1 (23 + 4 * q.1) q.2 (gl A1 143 (0 : Int32).toNatClampNeg)) (22 + 4 * q.1) q.2 2) 141 2 = ni (L.length + 1) := by rw [gi_ne (by omega), gi_sl]; exact s1.2.2.1
        rw [e2, show ni (L.length + 1) - 1 = ni L.length from (ni_sub (a := L.length + 1) (b := 1) (by omega)).trans (by rw [show L.length + 1 - 1 = L.length by omega])]
        obtain ⟨b1, b2, b3⟩ := si_done s1 (v := gl A1 143 0) ⟨i1, by rw [kp.vl i1 q.1 q.2 q30]; exact z3⟩
        have un : Un A1 ≤ Un A := un_le (fun y k hy hk z => by rw [(z2.mk y hy).1]; exact z)
        obtain ⟨A3, c1, c2, c3⟩ := ih (τ := τ + 1) (F := F) b1 (by omega) (by omega) (by omega)
        unfold SJ_X5_settle_125
        rw [show ni τ + 1 = ni (τ + 1) from ni_add τ 1]
        exact ⟨A3, c1, (z2.ft.trans b2).trans c2, c3⟩
      · rw [z1, bS]; dsimp only
        rw [if_pos (by decide), if_pos rfl]
        have s1 := h.fre z2
        have kp := z2.kp h.1
        refine lose z2 s1 (fun p hp i => Classical.byContradiction fun z => ?_)
        obtain ⟨i', u1, u2⟩ := chn_dn s1.2.2.2.2.2.2.2.1 hp z
        rw [kp.vl i' q.1 q.2 q30] at u2
        exact u2 (z3 i')
      · rw [z1, bS]; dsimp only
        have s1 := h.fre z2
        have kp := z2.kp h.1
        have k8 : k' < 8 := by have := (h.1.2 y' z3 s' z4).2.2.1.2.1; omega
        have hq' : isC A1 (y', k') := (isC_kp kp).mpr ⟨z3, s', z4, z5⟩
        have em : mkA A1 (y', k') = gi A (22 + 4 * y') k' := by unfold mkA; rw [(z2.mk y' z3).1]
        have dep : ∀ i, vlC A1 (i + 1) q.1 q.2 ≠ none → vlC A1 i y' k' ≠ none := fun i => by rw [kp.vl (i + 1) q.1 q.2 q30, kp.vl i y' k' z3]; exact z8 i
        rw [if_pos (ni_ne1 (by omega)), if_neg (show ¬ ni (8 * y' + k') = -2 from fun e => by
          have := congrArg Int32.toInt e
          rw [ni_toInt (by omega), show ((-2 : Int32).toInt) = -2 by decide] at this
          omega), markOf_eq z3 k8, bS]; dsimp only
        by_cases k1 : gi A1 (22 + 4 * y') k' = 1
        · rw [if_neg (fun z => z k1)]
          have hin : (y', k') ∈ q :: L := (s1.2.2.2.2.2.1 _ hq').mp k1
          have key : ∀ i, vlC A1 i q.1 q.2 = none := by
            intro i
            induction i using Nat.strongRecOn with
            | _ i ih2 =>
              refine Classical.byContradiction fun z => ?_
              cases i with
              | zero => exact z rfl
              | succ i =>
                obtain ⟨i', u1, u2⟩ := chn_dn s1.2.2.2.2.2.2.2.1 hin (dep i z)
                exact u2 (ih2 i' (by omega))
          refine lose z2 s1 (fun p hp i => Classical.byContradiction fun z => ?_)
          obtain ⟨i', u1, u2⟩ := chn_dn s1.2.2.2.2.2.2.2.1 hp z
          exact u2 (key i')
        · rw [if_pos k1]
          have h0 : mkA A1 (y', k') = 0 := by
            rcases s1.2.2.2.2.2.2.1 _ hq' with e | e | e | e
            · exact e
            · exact absurd e k1
            · rw [em] at e; exact absurd e z6
            · rw [em] at e; exact absurd e z7
          obtain ⟨A2, b1, b2, b3, b4, b5⟩ := si_push s1 hq' h0 (fun p L' e i => by cases e; exact dep i)
          rw [b1, bS]
          have un : Un A1 ≤ Un A := un_le (fun y k hy hk z => by rw [(z2.mk y hy).1]; exact z)
          obtain ⟨A3, c1, c2, c3⟩ := ih (τ := τ + 1) (F := F) b2 (by show 2 * Un A2 + (L.length + 1 + 1) ≤ μ; omega) (by omega) (by omega)
          unfold SJ_X5_settle_125
          rw [show ni τ + 1 = ni (τ + 1) from ni_add τ 1]
          exact ⟨A3, c1, (z2.ft.trans b3).trans c2, c3⟩

-- ===== sheet =====
def Zr (B : Mem) : Prop := gi B 181 33 = 0 ∧ gi B 181 34 = 0
/-- a call, in both, with the reference's two fields -/
def Cal0 {α : Type} (x y : Mem → Option (α × Mem)) : Prop := ∀ N A B, N < 600 → Sim N A B → Zr B → ∃ v A' B', x A = some (v, A') ∧ y B = some (v, B') ∧ Sim (N + 1) A' B' ∧ Zr B' ∧ KRf A A' ∧ KCl B B' ∧ nc A' ≤ nc A + 10 ∧ ns A' ≤ ns A + 2300
theorem Cal.c0 {α : Type} {x y : Mem → Option (α × Mem)} (h : Cal x y) (k : ∀ B w, y B = some w → K4 B w.2) : Cal0 x y := by
  intro N A B hN hs hz
  obtain ⟨v, A', B', e1, e2, s, k1, k2, n1, n2⟩ := h N A B hN hs
  exact ⟨v, A', B', e1, e2, s, (k B (v, B') e2 (hs.2.1.kd 181)).2 hz, k1, k2, n1, n2⟩
theorem cal_law0 {α : Type} {x y : Mem → Option (α × Mem)} (h : Cal0 x y) {N : Nat} {M : Mem} (hN : N < 600) (hM : Sim N M M) (hz : Zr M) : ∃ v M1 M2, x M = some (v, M1) ∧ y M1 = some (v, M2) ∧ Sim (N + 1) M2 M2 ∧ Zr M2 ∧ nc M2 ≤ nc M + 10 ∧ ns M2 ≤ ns M + 2300 := by
  obtain ⟨v, A', B', e1, -, -, -, k1, -, -, -⟩ := h N M M hN hM hz
  have z1 : Zr A' := by
    unfold Zr at hz ⊢
    rw [(k1 181 (by omega) (by omega)).i]; exact hz
  obtain ⟨u, A2, B2, f1, f2, s2, z2, -, k2, n1, n2⟩ := h N M A' hN (sim_ref hM k1) z1
  rw [e1] at f1
  cases f1
  refine ⟨v, A', B2, e1, f2, sim_cls s2 k2, z2, ?_, ?_⟩
  · rw [k2.nc]; exact n1
  · have : ns B2 = ns A' := congrArg Prod.snd k2.1
    rw [this]; exact n2
theorem sim_of2 {N : Nat} {A A' B B' : Mem} (h : Sim N A B) (fA : FSC A') (fB : FSR B') (hn : nc A ≤ nc A') (kA : ∀ a, 18 ≤ a → a < 141 → Sm a A A') (kS : ∀ s, Shs A s → KpS s A A') (k6 : gl A' 6 = gl A 6)
    (kB : ∀ a, a = 183 ∨ (194 ≤ a ∧ a < 219) → Sm a B B') (e59 : gi B' 181 59 = gi B 181 59) (e64 : gi B' 181 64 = gi B 181 64) (e63 : gi B' 181 63 = gi B 181 63)
    (tp : SmTp A' B') (ft : SmFt A' B') (st : SmSt A' B' (N + 1)) (vy : SmVy A' B') (bk : SmBk A' B') : Sim (N + 1) A' B' := by
  obtain ⟨h1, h2, h3, h4, h5, h6, h7, h8, h9, h10, h11, h12, h13, h14, h15⟩ := h
  have kH : KpH A A' := ⟨fun y hy => by rw [(kA 19 (by omega) (by omega)).r], fun y s hy hs => kS s ⟨y, hy, Or.inl hs⟩⟩
  have kT : KpT A A' := ⟨fun y hy => by rw [(kA (21 + 4 * y) (by omega) (by omega)).r], fun y s hy hs => kS s ⟨y, hy, Or.inr hs⟩⟩
  have kR : KpR B B' := fun a h1 h2 => kB a (by omega)
  have kM : ∀ y, y < 30 → gi A' (22 + 4 * y) = gi A (22 + 4 * y) ∧ gl A' (23 + 4 * y) = gl A (23 + 4 * y) := fun y hy => ⟨(kA _ (by omega) (by omega)).i, (kA _ (by omega) (by omega)).j⟩
  refine ⟨fA, fB, tp, ?_, ft, smSh_cg h6 kH hn kR, smCl_cg h7 kT hn kR (fun y hy => (kA _ (by omega) (by omega)).i) (fun y hy => (kA _ (by omega) (by omega)).j) (kB _ (by omega)).i (kB _ (by omega)).i (kB _ (by omega)).i (kB _ (by omega)).i (kB _ (by omega)).j, smCh_cg h8 kH.1 kT.1 (by rw [(kA 18 (by omega) (by omega)).i]) (kB _ (by omega)).i, ?_, cnA_cg h10 kT kM, cnB_cg h11 kT kM e64 e59 (kB _ (by omega)).i (kB _ (by omega)).j, st, vy, bk, e63.trans h15⟩
  · unfold SmWd at h4 ⊢; rw [k6, (kB 183 (by omega)).j]; exact h4
  · obtain ⟨e, he, h9⟩ := h9
    refine ⟨e, by omega, ?_⟩
    rw [(kA 18 (by omega) (by omega)).i, e59, e64]; exact h9
theorem sim_read {N : Nat} {A B A1 B1 : Mem} (h : Sim N A B) (fA : FSC A1) (fB : FSR B1) (hn : nc A ≤ nc A1) (kA : ∀ a, a < nc A → a = 0 ∨ a = 2 ∨ a = 6 ∨ 17 < a → Sm a A A1) (t1 : gi A1 1 1 = 0) (kg : KG B B1) (kB : ∀ a, a < 181 ∨ (182 < a ∧ a < 184) ∨ 193 < a → gi B1 a = gi B a ∧ gl B1 a = gl B a) (t2 : gi B1 181 1 = 0) (fl : ∀ j, 35 < j → gi B1 181 j = gi B 181 j) (ft : SmFt A1 B1) : Sim (N + 1) A1 B1 := by
  have h231 := h.1.1
  have sB : ∀ a, a < 181 ∨ (182 < a ∧ a < 184) ∨ 193 < a → Sm a B B1 := fun a ha => kg.sm (kB a ha).1 (kB a ha).2
  have h0 := h
  obtain ⟨h1, h2, h3, h4, h5, h6, h7, h8, h9, h10, h11, h12, h13, h14, h15⟩ := h
  refine sim_of2 h0 fA fB hn (fun a a1 a2 => kA a (by omega) (by omega)) (fun s hs a a1 a2 => by have := shs_ge h0 hs; exact kA a (by omega) (by omega)) (kA 6 (by omega) (by omega)).j (fun a ha => sB a (by omega)) (fl 59 (by omega)) (fl 64 (by omega)) (fl 63 (by omega)) ⟨0, by omega, t1, t2, fun k hk => by omega⟩ ft ?_ ?_ ?_
  · exact smSt_mono h12 (congrFun (kA 144 (by omega) (by omega)).i 8) (kA 179 (by omega) (by omega)).i (fl 66 (by omega)) (sB 220 (by omega)).i
  · exact smVy_cg h13 hn ⟨congrFun (kA 0 (by omega) (by omega)).i 6, (kA 180 (by omega) (by omega)).r, fun v q _ q1 q2 a a1 a2 => kA a (by omega) (by omega)⟩ (fun y hy => congrFun (kA 19 (by omega) (by omega)).r y) (fun y hy => congrFun (kA (21 + 4 * y) (by omega) (by omega)).r 0) (fl 73 (by omega)) (fun a a1 a2 => sB a (by omega))
  · unfold SmBk at h14 ⊢; rw [(kA 0 (by omega) (by omega)).i, fl 83 (by omega), fl 84 (by omega)]; exact h14
/-- a new sheet is laid in its place -/
theorem sim_inst {N : Nat} {A B B2 : Mem} {y s : Nat} (h : Sim N A B) (hy : y < 30) (hs : 231 ≤ s) (hv : ∀ n v q, gi A 0 6 = ni n → n ≤ 20 → v < n → gr A 180 v = some q → q + 5 ≤ s) (kg : KG B B2) (kB : ∀ a, a < 194 ∨ 210 < a → gi B2 a = gi B a ∧ gl B2 a = gl B a) (fs : FrS y B B2) (hsh : ShR A B2 (some s) y y) :
    Sim N (si (sr A 19 y (some s)) 18 2 (gi A 18 2 ||| 1 <<< (ni y &&& 31))) (si B2 211 y 1) := by
  have sB : ∀ a, a < 194 ∨ 210 < a → a ≠ 211 → Sm a B (si B2 211 y 1) := fun a ha hb => (kg.sm (kB a ha).1 (kB a ha).2).trans (sm_si hb)
  have kR : KpR B2 (si B2 211 y 1) := fun a a1 a2 => sm_si (by omega)
  obtain ⟨h1, h2, h3, h4, h5, h6, h7, h8, h9, h10, h11, h12, h13, h14, h15⟩ := h
  have k19 : fxk 25 y = false := by unfold fxk; simp
  have cA : ∀ a, a ≠ 19 → a ≠ 18 → Sm a A (si (sr A 19 y (some s)) 18 2 (gi A 18 2 ||| 1 <<< (ni y &&& 31))) := fun a q1 q2 => (sm_sr q1).trans (sm_si q2)
  have fA : FSC (si (sr A 19 y (some s)) 18 2 (gi A 18 2 ||| 1 <<< (ni y &&& 31))) := (h1.kc (kc_srk (h1.hk 19) k19)).kc kc_si
  have e182 : gi (si (sr A 19 y (some s)) 18 2 (gi A 18 2 ||| 1 <<< (ni y &&& 31))) 18 2 = gi A 18 2 ||| 1 <<< (ni y &&& 31) := si_eq
  have e183 : gi (si (sr A 19 y (some s)) 18 2 (gi A 18 2 ||| 1 <<< (ni y &&& 31))) 18 3 = gi A 18 3 := si_ff' (by omega)
  have r19 : ∀ x, gr (si (sr A 19 y (some s)) 18 2 (gi A 18 2 ||| 1 <<< (ni y &&& 31))) 19 x = if x = y then some s else gr A 19 x := fun x => by
    rw [gr_si, gr_sr]
    by_cases e : x = y
    · rw [if_pos ⟨rfl, e⟩, if_pos e]
    · rw [if_neg (fun z => e z.2), if_neg e]
  have hn : nc A = nc (si (sr A 19 y (some s)) 18 2 (gi A 18 2 ||| 1 <<< (ni y &&& 31))) := rfl
  generalize si (sr A 19 y (some s)) 18 2 (gi A 18 2 ||| 1 <<< (ni y &&& 31)) = A' at *
  have kS : ∀ s', 231 ≤ s' → KpS s' A A' := fun s' h a ha hb => cA a (by omega) (by omega)
  have kT : KpT A A' := ⟨fun x hx => by rw [(cA _ (by omega) (by omega)).r], fun x s' hx hs => kS s' (shr_ge (h7 x hx).1 hs).1⟩
  have kM : ∀ x, x < 30 → gi A' (22 + 4 * x) = gi A (22 + 4 * x) ∧ gl A' (23 + 4 * x) = gl A (23 + 4 * x) := fun x hx => ⟨(cA _ (by omega) (by omega)).i, (cA _ (by omega) (by omega)).j⟩
  have shr : ∀ r x own, x ≠ y → ShR A B r x own → ShR A' (si B2 211 y 1) r x own := fun r x own hx g => shr_cg (shr_sl g fs hx) (fun s' hs' => kS s' (shr_ge g hs').1) (by omega) kR
  have b181 : ∀ j, gi (si B2 211 y 1) 181 j = gi B 181 j := fun j => congrFun (sB 181 (by omega) (by omega)).i j
  refine ⟨fA, h2.kg (kg.trans kg_si), ?_, ?_, ?_, ?_, ?_, ?_, ?_, cnA_cg h10 kT kM, cnB_cg h11 kT kM (b181 64) (b181 59) (sB 217 (by omega) (by omega)).i (sB 218 (by omega) (by omega)).j, ?_, ?_, ?_, ?_⟩
  · unfold SmTp at h3 ⊢; rw [(cA 1 (by omega) (by omega)).i, (cA 2 (by omega) (by omega)).i, (sB 181 (by omega) (by omega)).i, (sB 182 (by omega) (by omega)).i]; exact h3
  · unfold SmWd at h4 ⊢; rw [(cA 6 (by omega) (by omega)).j, (sB 183 (by omega) (by omega)).j]; exact h4
  · unfold SmFt at h5 ⊢; rw [(cA 7 (by omega) (by omega)).i, b181, b181]; exact h5
  · intro x hx
    rw [r19]
    by_cases e : x = y
    · subst e
      rw [if_pos rfl]
      exact shr_cg hsh (fun s' hs' => by cases hs'; exact kS s hs) (by omega) kR
    · rw [if_neg e]
      exact shr _ _ _ e (h6 x hx)
  · intro x hx
    obtain ⟨c1, c2, c3, c4⟩ := h7 x hx
    rw [(cA (21 + 4 * x) (by omega) (by omega)).r, (cA (21 + 4 * x) (by omega) (by omega)).i, (cA (24 + 4 * x) (by omega) (by omega)).j, (sB 212 (by omega) (by omega)).i, (sB 213 (by omega) (by omega)).i, (sB 214 (by omega) (by omega)).i, (sB 215 (by omega) (by omega)).i, (sB 216 (by omega) (by omega)).j]
    exact ⟨shr _ _ _ (by omega) c1, c2, c3, c4⟩
  · refine ⟨fun x hx => ?_, fun x x1 x2 => ?_⟩
    · rw [e182, bt_or, bt_one (by omega) (by omega), r19]
      by_cases e : x = y
      · subst e
        refine ⟨by rw [gi_si, if_pos ⟨rfl, rfl⟩]; simp, fun q => ?_⟩
        simp at q
      · rw [show gi (si B2 211 y 1) 211 x = gi B 211 x by rw [gi_si, if_neg (by omega), (kB 211 (by omega)).1], decide_eq_false e, Bool.or_false, (cA (21 + 4 * x) (by omega) (by omega)).r, if_neg e]
        exact h8.1 x hx
    · rw [e182, bt_or, bt_one (by omega) (by omega), h8.2 x x1 x2, decide_eq_false (by omega)]; rfl
  · obtain ⟨e, he, q1, q2, q3⟩ := h9
    refine ⟨e, he, ?_, ?_, ?_⟩
    · rw [e183]; exact q1
    · rw [b181]; exact q2
    · rw [b181]; exact q3
  · obtain ⟨n, h12⟩ := h12
    refine ⟨n, ?_⟩
    rw [(cA 144 (by omega) (by omega)).i, (cA 179 (by omega) (by omega)).i, b181, (sB 220 (by omega) (by omega)).i]; exact h12
  · obtain ⟨n, p0, p1, p2, p3, p4, p5, p6⟩ := h13
    refine ⟨n, p0, ?_, ?_, fun v hv' => ?_, ?_, ?_, ?_⟩
    · rw [(cA 0 (by omega) (by omega)).i]; exact p1
    · rw [b181]; exact p2
    · obtain ⟨q, hq, hq2⟩ := p3 v hv'
      exact ⟨q, by rw [(cA 180 (by omega) (by omega)).r]; exact hq, vyR_cg hq2 (by omega) (fun a a1 a2 => cA a (by have := hq2.1.1; omega) (by have := hq2.1.1; omega)) (fun a a1 a2 => sB a (by omega) (by omega))⟩
    · rw [(cA 180 (by omega) (by omega)).r]; exact p4
    · rw [(cA 180 (by omega) (by omega)).r]
      rintro v q s' hv' hq ⟨x, hx, hs'⟩
      rw [(cA (21 + 4 * x) (by omega) (by omega)).r, r19] at hs'
      by_cases e : x = y
      · rw [if_pos e] at hs'
        rcases hs' with hs' | hs'
        · cases hs'; exact Or.inl (hv n v q p1 p0 hv' hq)
        · exact p5 v q s' hv' hq ⟨x, hx, Or.inr hs'⟩
      · rw [if_neg e] at hs'
        exact p5 v q s' hv' hq ⟨x, hx, hs'⟩
    · rw [(sB 224 (by omega) (by omega)).i]; exact p6
  · unfold SmBk at h14 ⊢; rw [(cA 0 (by omega) (by omega)).i, b181, b181]; exact h14
  · rw [b181]; exact h15
theorem sheet_core {N : Nat} {A B : Mem} {y : Nat} (hN : N < 600) (h : Sim N A B) (hz : Zr B) (hy : y < 30) : ∃ v A' B', S_X10_sheet (ni (1700 + y)) A = some (v, A') ∧ S_X11_sheet (ni (1700 + y)) B = some (v, B') ∧ Sim (N + 1) A' B' ∧ KRf A A' ∧ KCl B B' ∧ nc A' ≤ nc A + 10 ∧ ns A' ≤ ns A + 2300 := by
  have h0 := h
  obtain ⟨h1, h2, h3, h4, h5, h6, h7, h8, h9, h10, h11, h12, h13, h14, h15⟩ := h
  obtain ⟨n, n9, t1, t2, t3⟩ := h3
  obtain ⟨by_, hby⟩ : ∃ f : Nat → Nat, ∀ k, k < n → f k < 256 ∧ gi A 2 k = ni (f k) ∧ gi B 182 k = byR (f k) := by
    refine ⟨fun k => if hk : k < n then Classical.choose (t3 k hk) else 0, fun k hk => ?_⟩
    dsimp only
    rw [dif_pos hk]; exact Classical.choose_spec (t3 k hk)
  have fb0 : ∀ j, j ≠ 4 → j ≠ 1 → j ≠ 12 → gi (si (si (si B 181 4 (gi B 181 1)) 181 1 0) 181 12 (ni y)) 181 j = gi B 181 j := fun j j1 j2 j3 => by rw [si_ff' j3, si_ff' j2, si_ff' j1]
  have e4 : gi (si (si (si B 181 4 (gi B 181 1)) 181 1 0) 181 12 (ni y)) 181 4 = ni n := by rw [si_ff' (by omega), si_ff' (by omega), si_eq]; exact t2
  have e1 : gi (si (si (si B 181 4 (gi B 181 1)) 181 1 0) 181 12 (ni y)) 181 1 = 0 := by rw [si_ff' (by omega), si_eq]
  have e12 : gi (si (si (si B 181 4 (gi B 181 1)) 181 1 0) 181 12 (ni y)) 181 12 = ni y := si_eq
  have sb0 : ∀ a, a ≠ 181 → gi (si (si (si B 181 4 (gi B 181 1)) 181 1 0) 181 12 (ni y)) a = gi B a := fun a ha => by rw [gi_ne ha, gi_ne ha, gi_ne ha]
  have lb0 : gl (si (si (si B 181 4 (gi B 181 1)) 181 1 0) 181 12 (ni y)) = gl B := rfl
  have kg0 : KG B (si (si (si B 181 4 (gi B 181 1)) 181 1 0) 181 12 (ni y)) := ⟨rfl, rfl, rfl⟩
  unfold S_X10_sheet S_X11_sheet
  rw [yI_yes hy, iY_yes hy, bS, bS]; dsimp only
  rw [if_pos (ni_ne1 (by omega)), if_pos (show ¬ (1 : Int32) = 0 by decide), ny_sub]
  generalize si (si (si B 181 4 (gi B 181 1)) 181 1 0) 181 12 (ni y) = B0 at *
  have tA : TBy A n by_ := ⟨n9, t1, fun k hk => ⟨(hby k hk).1, (hby k hk).2.1⟩⟩
  have tB : RBy B0 n by_ := ⟨n9, e4, fun k hk => ⟨(hby k hk).1, by rw [sb0 182 (by omega)]; exact (hby k hk).2.2⟩⟩
  have hw : SmWd A B0 := by unfold SmWd at h4 ⊢; rw [lb0]; exact h4
  obtain ⟨A', B', r1, r2, r3, r4, ⟨c, c1, c2⟩, q1, q2, q3⟩ := lk_read h1 (h2.kg kg0) tA tB hw hy e12 ⟨(fb0 33 (by omega) (by omega) (by omega)).trans hz.1, (fb0 34 (by omega) (by omega) (by omega)).trans hz.2⟩
  rw [r1, r2, bS]; dsimp only
  have kgB : KG B B' := kg0.trans r4.1
  have kB : ∀ a, a < 181 ∨ (181 < a ∧ a < 184) ∨ 193 < a → gi B' a = gi B a ∧ gl B' a = gl B a := fun a ha => ⟨(r4.2.1 a ha).trans (sb0 a (by omega)), (r4.2.2.1 a ha).trans (by rw [lb0])⟩
  have fl : ∀ j, 35 < j → gi B' 181 j = gi B 181 j := fun j hj => (r4.2.2.2.1 j (by omega)).trans (fb0 j (by omega) (by omega) (by omega))
  have t2' : gi B' 181 1 = 0 := (r4.2.2.2.1 1 (by omega)).trans e1
  have h231 := h1.1
  have kcl' : KCl B B' := ⟨kgB.1, fun a ha => kgB.sm (kB a (by omega)).1 (kB a (by omega)).2⟩
  unfold SJ_X4_read_116
  by_cases f0 : ¬ gi A' 7 6 = 0
  · obtain ⟨x, A2, u1, u2, u3, u4⟩ : ∃ x A2, S_X0_emit 21 0 A' = some (x, A2) ∧ FrC A' A2 ∧ gi A2 7 6 = gi A' 7 6 ∧ gi A2 7 7 = gi A' 7 7 := by
      by_cases e : c < 1024
      · exact ⟨_, _, emC_eq c2 e, emA_fr, emA_f (by omega) (by omega), emA_f (by omega) (by omega)⟩
      · exact ⟨_, _, emC_full (by rw [c2, show c = 1024 by omega]), FrC.rf, rfl, rfl⟩
    have fr2 : FrR A A2 := r3.trans u2.to2.fr
    rw [u1, bS]; dsimp only
    rw [if_pos (by rw [u3]; exact f0), bS]; dsimp only
    rw [if_neg (fun q => q rfl), if_neg (by rw [← q1]; exact f0)]
    have sA : ∀ a, a = 0 ∨ a = 2 ∨ a = 6 ∨ 17 < a → Sm a A (si A2 1 1 0) := fun a ha => (fr2.2.2.2.1 a ha).trans (sm_si (by omega))
    refine ⟨_, _, _, rfl, rfl, sim_read h0 ((h1.kc fr2.1).kc kc_si) (h2.kg kgB) (Nat.le_of_eq fr2.2.1.symm) (fun a _ ha => sA a ha) si_eq kgB (fun a ha => kB a (by omega)) t2' fl ?_, fun a a1 a2 => sA a (by omega), kcl', ?_, ?_⟩
    · refine ⟨?_, ?_⟩
      · rw [gi_ne (by omega), u3]; exact q1
      · rw [gi_ne (by omega), u4]; exact q2
    · show nc A2 ≤ _
      rw [fr2.2.1]; omega
    · show ns A2 ≤ _
      rw [fr2.2.2.1]; omega
  · have f0 := Decidable.not_not.mp f0
    obtain ⟨c', r, k, t, m, yy, ⟨x1, x2, x3, x4⟩, ⟨x5, x6, x7⟩, ⟨x8, x9, x10⟩, x11, ⟨x12, x13⟩, ⟨x14, x15⟩, x16⟩ := q3 f0
    rw [emC_eq x1 (by omega), bS]; dsimp only
    have u3 : gi (emA A' c' 21 0) 7 6 = 0 := (emA_f (by omega) (by omega)).trans f0
    have u4 : gi (emA A' c' 21 0) 7 7 = gi A' 7 7 := emA_f (by omega) (by omega)
    have fr2 : FrR A (emA A' c' 21 0) := r3.trans emA_fr.to2.fr
    have e8 : ∀ j, j ≠ 6 → gi (emA A' c' 21 0) 8 j = gi A' 8 j := fun j hj => emA_f (by omega) (by omega)
    have e86 : gi (emA A' c' 21 0) 8 6 = ni (c' + 1) := by unfold emA; exact si_eq
    have eg : ∀ a, 11 ≤ a → gi (emA A' c' 21 0) a = gi A' a ∧ gl (emA A' c' 21 0) a = gl A' a := fun a ha => ⟨emA_fr.2.1 a (by omega) (by omega) (by omega), emA_fr.2.2.1 a (by omega)⟩
    have fA2 : FSC (emA A' c' 21 0) := h1.kc fr2.1
    rw [if_neg (fun q => q u3)]
    obtain ⟨M, s1, s2, s3, s4, s5, s6, s7, s8, s9, s10, s11⟩ := sheet_init fA2 e86 (by omega) ((e8 9 (by omega)).trans x5) x7 ((e8 12 (by omega)).trans x8) x10 ((e8 16 (by omega)).trans x14) x15
    rw [s1, bS, bS]; dsimp only
    rw [if_pos (by simp)]
    have nA : nc (emA A' c' 21 0) = nc A := fr2.2.1
    rw [nA] at s1 s2 s4 s5 s6 s7 s8 s9 s10 s11
    rw [nA]
    have fM : FSC M := by
      have := fA2.kc (kx_new KC.rf (by rw [nA] at *; exact keep_X6_init s1))
      exact this
    generalize hs : nc A = s at *
    have fM1 : FSC (si M 1 1 0) := fM.kc kc_si
    unfold S_X1_change
    rw [gdT ⟨(ni_inb (by omega)).mpr hy, by show decide (kd (si M 1 1 0) s = 6) = true; exact decide_eq_true s5.2.2.1⟩, bS, ni_tn (by omega)]; dsimp only
    have k6 : kd (si (sr (si M 1 1 0) 19 y (some s)) 18 2 (gi (sr (si M 1 1 0) 19 y (some s)) 18 2 ||| 1 <<< (ni y &&& 31))) s = 6 := s5.2.2.1
    rw [bi_fI k6]
    rw [if_pos (show gi B' 181 2 = 0 by rw [← q1]; exact f0), show gi B' 181 12 = ni y from (r4.2.2.2.1 12 (by omega)).trans e12]
    obtain ⟨B2, y1, y2, y3, y4, y5, y6, y7, y8, y9⟩ := keeps_ok (B := B') (y := y) (by omega) x6 x7 x9 x10 x12 x13 x3 x4
    rw [y1, bS]; dsimp only
    rw [show gi B2 181 12 = ni y by rw [(y3 181 (by omega)).1]; exact (r4.2.2.2.1 12 (by omega)).trans e12, gdT ((ni_inb (by omega)).mpr hy), ni_tn (by omega), nar1]
    have sA : ∀ a, a < s → a = 0 ∨ a = 2 ∨ a = 6 ∨ 17 < a → Sm a A (si M 1 1 0) := fun a ha1 ha => ((fr2.2.2.2.1 a ha).trans (s4 a (by omega))).trans (sm_si (by omega))
    have sim1 : Sim (N + 1) (si M 1 1 0) B' := sim_read h0 fM1 (h2.kg kgB) (by show nc A ≤ nc M; omega) (fun a ha1 ha => sA a (by omega) ha) si_eq kgB (fun a ha => kB a (by omega)) t2' fl (by
      refine ⟨?_, ?_⟩
      · rw [gi_ne (by omega), (s4 7 (by omega)).i, u3, ← q1]; exact f0.symm
      · rw [gi_ne (by omega), (s4 7 (by omega)).i, u4]; exact q2)
    have hsO : ShO (si M 1 1 0) s := KpS.so (A := M) (fun a ha hb => sm_si (by omega)) (Nat.le_refl _) s5
    have sv : svC (si M 1 1 0) s = svC M s := KpS.sv (fun a ha hb => sm_si (by omega))
    have txt : Txt y (svC M s) (svR B2 y) := by
      refine x16 _ _ ⟨?_, ?_, ?_⟩ (fun j hj => ?_) ?_ (fun j hj => ?_) ?_ (fun j hj => ?_) ?_ (fun j hj => ?_) ?_ ⟨?_, ?_, ?_⟩ (fun j hj => ?_) (fun j hj => ?_) ?_ (fun j hj => ?_) ?_ (fun j hj => ?_) ?_
      · exact s6.1.trans (e8 0 (by omega))
      · exact s6.2.1.trans (e8 1 (by omega))
      · exact s6.2.2.2.trans (e8 3 (by omega))
      · exact s8 j hj
      · exact s7.1
      · exact ⟨(s9 j hj).1.trans (congrFun (eg 11 (by omega)).2 j), (s9 j hj).2.trans (congrFun (eg 12 (by omega)).1 j)⟩
      · exact s7.2.1
      · exact ⟨(s10 j hj).1.trans (congrFun (eg 13 (by omega)).2 j), (s10 j hj).2.trans (congrFun (eg 14 (by omega)).1 j)⟩
      · exact s7.2.2.1
      · exact ⟨(s11 j hj).1.trans (congrFun (eg 15 (by omega)).1 j), (s11 j hj).2.1.trans (congrFun (eg 16 (by omega)).1 j), (s11 j hj).2.2.trans (congrFun (eg 17 (by omega)).1 j)⟩
      · exact s7.2.2.2
      · exact y5.2.1
      · exact y5.2.2.1
      · exact y5.2.2.2.2.2.2
      · exact y9 j hj
      · exact y8 j hj
      · show tn (gi B2 203 y) = m
        rw [y5.2.2.2.2.2.1]; exact ni_tn (by omega)
      · exact y6 j hj
      · show tn (gi B2 197 y) = k
        rw [y5.2.2.2.1]; exact ni_tn (by omega)
      · exact y7 j hj
      · show tn (gi B2 200 y) = t
        rw [y5.2.2.2.2.1]; exact ni_tn (by omega)
    have hsh : ShR (si M 1 1 0) B2 (some s) y y := ⟨y5.1, hsO, by rw [sv]; exact txt, ⟨m, y5.2.2.2.2.2.1, x13⟩, ⟨k, y5.2.2.2.1, x7⟩, ⟨t, y5.2.2.2.2.1, x10⟩⟩
    have hv : ∀ n v q, gi (si M 1 1 0) 0 6 = ni n → n ≤ 20 → v < n → gr (si M 1 1 0) 180 v = some q → q + 5 ≤ s := by
      intro n' v q g1 g2 g3 g4
      obtain ⟨n0, p0, p1, p2, p3, -⟩ := h13
      rw [(sA 0 (by omega) (by omega)).i, p1] at g1
      have en : n0 = n' := (ni_inj (by omega) (by omega)).mp g1
      obtain ⟨q', w1, w2⟩ := p3 v (by omega)
      rw [(sA 180 (by omega) (by omega)).r, w1] at g4
      cases g4
      have := w2.1.2.1
      omega
    have sim2 := sim_inst sim1 hy (by omega) hv y2 y3 y4 hsh
    have eV : gi (si (sr (si M 1 1 0) 19 y (some s)) 18 2 (gi (sr (si M 1 1 0) 19 y (some s)) 18 2 ||| 1 <<< (ni y &&& 31))) s 2 = gi (si B2 211 y 1) 181 22 := by
      rw [gi_ne (by omega), gi_sr, gi_ne (by omega), s6.2.2.1, e8 2 (by omega), gi_ne (by omega), (y3 181 (by omega)).1]; exact x11
    rw [eV]
    refine ⟨_, _, _, rfl, rfl, sim2, ?_, ?_, ?_, ?_⟩
    · intro a a1 a2
      exact ((sA a (by omega) (by omega)).trans (sm_sr (by omega))).trans (sm_si (by omega))
    · refine kcl'.trans ⟨y2.1, fun a ha => (y2.sm (y3 a (by omega)).1 (y3 a (by omega)).2).trans (sm_si (by omega))⟩
    · show nc M ≤ _
      omega
    · show ns M ≤ _
      rw [s3, fr2.2.2.1]; omega
theorem cal_sheet (v : Int32) : Cal0 (L_X10_sheet (some 0) v) (L_X11_sheet (some 181) v) := by
  intro N A B hN h hz
  have zz : ∀ w, L_X11_sheet (some 181) v B = some w → Zr w.2 := fun w hw => (ky_X11_sheet hw (h.2.1.kd 181)).2 hz
  rcases year_cases v with ⟨y, hy, rfl⟩ | hv
  · obtain ⟨u, A', B', e1, e2, e3, e4, e5, e6, e7⟩ := sheet_core hN h hz hy
    have e2' : L_X11_sheet (some 181) (ni (1700 + y)) B = some (u, B') := (eqS_X11_sheet h.2.1).trans e2
    exact ⟨u, A', B', (eqS_X10_sheet h.1).trans e1, e2', e3, zz _ e2', e4, e5, e6, e7⟩
  · refine ⟨-2, A, B, ?_, ?_, sim_mono h, hz, KRf.rf, KCl.rf, by omega, by omega⟩
    · rw [eqS_X10_sheet h.1]; unfold S_X10_sheet
      rw [yI_no hv, bS, if_neg (fun q => q rfl)]
    · rw [eqS_X11_sheet h.2.1]; unfold S_X11_sheet
      rw [iY_no hv, bS, if_neg (fun q => q rfl)]
